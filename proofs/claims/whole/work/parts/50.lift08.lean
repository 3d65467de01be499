/-! methods as functions over one part, by program (wip/whole/lift.py) -/
noncomputable def bv12_firstOf_27 (p : PM) (F241 : PM → Int32 → Int32 → Int32 → Int32 → Int32) (kv27 : Int32 → Int32 → Int32 → Int32 → Int32 → Int32) (v1 : Int32) (v2 : Int32) (v3 : Int32) (v4 : Int32) (v5 : Int32) : Int32 :=
  if v5 < (cn 44) then (
    if v3 = (cn (-100000)) then (
      v4)
    else (
      if (F241 p v5 v1 v2 v3) = 0 then (
        kv27 v1 v2 v3 v4 (v5 + (cn 1)))
      else (
        if (p.1 13 19 (v5).toNatClampNeg) = (cn 2) then (
          kv27 v1 v2 v3 v4 (v5 + (cn 1)))
        else (
          if v4 < 0 then (
            kv27 v1 v2 v3 v5 (v5 + (cn 1)))
          else (
            if (p.1 13 23 (v5).toNatClampNeg) < (p.1 13 23 (v4).toNatClampNeg) then (
              kv27 v1 v2 v3 v5 (v5 + (cn 1)))
            else (
              kv27 v1 v2 v3 v4 (v5 + (cn 1))))))))
  else (
    v4)
noncomputable def v12_firstOf_27 (p : PM) (n : Nat) : Int32 → Int32 → Int32 → Int32 → Int32 → Int32 := Nat.rec (motive := fun _ => Int32 → Int32 → Int32 → Int32 → Int32 → Int32) (fun _ _ _ _ _ => 0) (fun _ ih => bv12_firstOf_27 p v12_isAt ih) n
theorem ev12_firstOf_27 (p : PM) (n : Nat) (v1 : Int32) (v2 : Int32) (v3 : Int32) (v4 : Int32) (v5 : Int32) : v12_firstOf_27 p (n + 1) v1 v2 v3 v4 v5 = bv12_firstOf_27 p v12_isAt (v12_firstOf_27 p n) v1 v2 v3 v4 v5 := rfl
noncomputable def bg12_firstOf_27 (p : PM) (F241 : PM → Int32 → Int32 → Int32 → Int32 → Int32) (G241 : PM → Int32 → Int32 → Int32 → Int32 → Prop) (kg27 : Int32 → Int32 → Int32 → Int32 → Int32 → Prop) (v1 : Int32) (v2 : Int32) (v3 : Int32) (v4 : Int32) (v5 : Int32) : Prop :=
  if v5 < (cn 44) then (
    if v3 = (cn (-100000)) then (
      True)
    else (
      (G241 p v5 v1 v2 v3) ∧ (
      if (F241 p v5 v1 v2 v3) = 0 then (
        kg27 v1 v2 v3 v4 (v5 + (cn 1)))
      else (
        (inb v5 44) ∧ (
        if (p.1 13 19 (v5).toNatClampNeg) = (cn 2) then (
          kg27 v1 v2 v3 v4 (v5 + (cn 1)))
        else (
          if v4 < 0 then (
            kg27 v1 v2 v3 v5 (v5 + (cn 1)))
          else (
            (inb v5 44) ∧ (
            (inb v4 44) ∧ (
            if (p.1 13 23 (v5).toNatClampNeg) < (p.1 13 23 (v4).toNatClampNeg) then (
              kg27 v1 v2 v3 v5 (v5 + (cn 1)))
            else (
              kg27 v1 v2 v3 v4 (v5 + (cn 1))))))))))))
  else (
    True)
noncomputable def g12_firstOf_27 (p : PM) (n : Nat) : Int32 → Int32 → Int32 → Int32 → Int32 → Prop := Nat.rec (motive := fun _ => Int32 → Int32 → Int32 → Int32 → Int32 → Prop) (fun _ _ _ _ _ => False) (fun _ ih => bg12_firstOf_27 p v12_isAt g12_isAt ih) n
theorem eg12_firstOf_27 (p : PM) (n : Nat) (v1 : Int32) (v2 : Int32) (v3 : Int32) (v4 : Int32) (v5 : Int32) : g12_firstOf_27 p (n + 1) v1 v2 v3 v4 v5 = bg12_firstOf_27 p v12_isAt g12_isAt (g12_firstOf_27 p n) v1 v2 v3 v4 v5 := rfl
noncomputable def bv12_firstOf (p : PM) (F218 : PM → Int32 → Int32) (F240 : PM → Int32 → Int32 → Int32 → Int32) (kv27 : Int32 → Int32 → Int32 → Int32 → Int32 → Int32) (v1 : Int32) (v2 : Int32) : Int32 :=
  if (F218 p v1) = 0 then (
    kv27 v1 v2 (cn (-100000)) (cn (-1)) (cn 0))
  else (
    let x1 : Int32 := (F240 p v1 v2 (cn 0))
    kv27 v1 v2 x1 (cn (-1)) (cn 0))
noncomputable def v12_firstOf (p : PM) (v1 : Int32) (v2 : Int32) : Int32 := bv12_firstOf p v12_isOpen v12_bestOf (v12_firstOf_27 p FU) v1 v2
noncomputable def bg12_firstOf (p : PM) (F218 : PM → Int32 → Int32) (G218 : PM → Int32 → Prop) (F240 : PM → Int32 → Int32 → Int32 → Int32) (G240 : PM → Int32 → Int32 → Int32 → Prop) (kg27 : Int32 → Int32 → Int32 → Int32 → Int32 → Prop) (v1 : Int32) (v2 : Int32) : Prop :=
  (G218 p v1) ∧ (
  if (F218 p v1) = 0 then (
    kg27 v1 v2 (cn (-100000)) (cn (-1)) (cn 0))
  else (
    (G240 p v1 v2 (cn 0)) ∧ (
    let x1 : Int32 := (F240 p v1 v2 (cn 0))
    kg27 v1 v2 x1 (cn (-1)) (cn 0))))
noncomputable def g12_firstOf (p : PM) (v1 : Int32) (v2 : Int32) : Prop := bg12_firstOf p v12_isOpen g12_isOpen v12_bestOf g12_bestOf (g12_firstOf_27 p FU) v1 v2
def R259 : List Row := [(0, .aload_n 0, 1, 0, (0, 0, 0, 0, 0, 0)), (1, .iload_n 1, 1, 0, (0, 0, 0, 0, 0, 0)), (2, .invokevirtual 328, 3, 0, (0, 2, 0, 0, 1, 0)), (5, .ifCond .eq 13, 3, 0, (0, 0, 0, 0, 0, 0)), (8, .aload_n 0, 1, 0, (0, 0, 0, 0, 0, 0)), (9, .iload_n 1, 1, 0, (0, 0, 0, 0, 0, 0)), (10, .iload_n 2, 1, 0, (0, 0, 0, 0, 0, 0)), (11, .iconst 0, 1, 0, (0, 0, 0, 0, 0, 0)), (12, .invokevirtual 301, 3, 0, (1, 4, 0, 0, 1, 0)), (15, .goto 5, 3, 0, (0, 0, 0, 0, 0, 0)), (18, .ldc 184, 2, 0, (0, 0, 0, 0, 0, -100000)), (20, .istore_n 3, 1, 0, (0, 0, 0, 0, 0, 0)), (21, .iconst (-1), 1, 0, (0, 0, 0, 0, 0, -1)), (22, .istore 4, 2, 0, (0, 0, 0, 0, 0, 0)), (24, .iconst 0, 1, 0, (0, 0, 0, 0, 0, 0)), (25, .istore 5, 2, 0, (0, 0, 0, 0, 0, 0)), (27, .iload 5, 2, 1, (0, 0, 0, 0, 0, 0)), (29, .bipush 44, 2, 0, (0, 0, 0, 0, 0, 44)), (31, .if_icmp .ge 81, 3, 0, (0, 0, 0, 0, 0, 0)), (34, .iload_n 3, 1, 0, (0, 0, 0, 0, 0, 0)), (35, .ldc 184, 2, 0, (0, 0, 0, 0, 0, -100000)), (37, .if_icmp .eq 75, 3, 0, (0, 0, 0, 0, 0, 0)), (40, .aload_n 0, 1, 0, (0, 0, 0, 0, 0, 0)), (41, .iload 5, 2, 0, (0, 0, 0, 0, 0, 0)), (43, .iload_n 1, 1, 0, (0, 0, 0, 0, 0, 0)), (44, .iload_n 2, 1, 0, (0, 0, 0, 0, 0, 0)), (45, .iload_n 3, 1, 0, (0, 0, 0, 0, 0, 0)), (46, .invokevirtual 251, 3, 0, (2, 5, 0, 0, 1, 0)), (49, .ifCond .eq 18, 3, 0, (0, 0, 0, 0, 0, 0)), (52, .aload_n 0, 1, 0, (0, 0, 0, 0, 0, 0)), (53, .getfield 84, 3, 0, (12, 27, 16, 2, 19, 0)), (56, .iload 5, 2, 0, (0, 0, 0, 0, 0, 0)), (58, .iaload, 1, 0, (13, 44, 0, 0, 0, 0)), (59, .iconst 2, 1, 0, (0, 0, 0, 0, 0, 2)), (60, .if_icmp .eq 7, 3, 0, (0, 0, 0, 0, 0, 0)), (63, .iconst 1, 1, 0, (0, 0, 0, 0, 0, 1)), (64, .goto 4, 3, 0, (0, 0, 0, 0, 0, 0)), (67, .iconst 0, 1, 0, (0, 0, 0, 0, 0, 0)), (68, .istore 6, 2, 0, (0, 0, 0, 0, 0, 0)), (70, .iload 6, 2, 0, (0, 0, 0, 0, 0, 0)), (72, .ifCond .eq 30, 3, 0, (0, 0, 0, 0, 0, 0)), (75, .iload 4, 2, 0, (0, 0, 0, 0, 0, 0)), (77, .ifCond .lt 20, 3, 0, (0, 0, 0, 0, 0, 0)), (80, .aload_n 0, 1, 0, (0, 0, 0, 0, 0, 0)), (81, .getfield 96, 3, 0, (12, 31, 16, 2, 23, 0)), (84, .iload 5, 2, 0, (0, 0, 0, 0, 0, 0)), (86, .iaload, 1, 0, (13, 44, 0, 0, 0, 0)), (87, .aload_n 0, 1, 0, (0, 0, 0, 0, 0, 0)), (88, .getfield 96, 3, 0, (12, 31, 16, 2, 23, 0)), (91, .iload 4, 2, 0, (0, 0, 0, 0, 0, 0)), (93, .iaload, 1, 0, (13, 44, 0, 0, 0, 0)), (94, .if_icmp .ge 8, 3, 0, (0, 0, 0, 0, 0, 0)), (97, .iload 5, 2, 0, (0, 0, 0, 0, 0, 0)), (99, .goto 5, 3, 0, (0, 0, 0, 0, 0, 0)), (102, .iload 4, 2, 0, (0, 0, 0, 0, 0, 0)), (104, .istore 4, 2, 0, (0, 0, 0, 0, 0, 0)), (106, .iinc 5 1, 3, 0, (0, 0, 0, 0, 0, 1)), (109, .goto (-82), 3, 0, (0, 0, 0, 0, 0, 0)), (112, .iload 4, 2, 0, (0, 0, 0, 0, 0, 0)), (114, .ireturn, 1, 0, (0, 0, 0, 0, 0, 0))]
set_option maxRecDepth 100000 in
theorem rk259 : R259.all (rok 2 259 1 [(218, [15, 0]), (240, [15, 0, 0, 0]), (241, [15, 0, 0, 0, 0])]) = true := by decide +kernel
set_option maxRecDepth 100000 in
theorem tab259 {F218 : PM → Int32 → Int32} {G218 : PM → Int32 → Prop} {F240 : PM → Int32 → Int32 → Int32 → Int32} {G240 : PM → Int32 → Int32 → Int32 → Prop} {F241 : PM → Int32 → Int32 → Int32 → Int32 → Int32} {G241 : PM → Int32 → Int32 → Int32 → Int32 → Prop} : TabOK 2 259 1 [CC218 F218 G218, CC240 F240 G240, CC241 F241 G241] R259 := tab_ok (K := K259) rfl rfl (fun h => d259 h) rk259 (by decide +kernel)
set_option maxRecDepth 100000 in
theorem pc259 : cutpc [27] R259 = true := by decide +kernel
set_option maxRecDepth 100000 in
theorem r12_firstOf_27 (p : PM) (hg : Gr 2 p) (F218 : PM → Int32 → Int32) (G218 : PM → Int32 → Prop) (o218 : CalOK 2 (CC218 F218 G218)) (F240 : PM → Int32 → Int32 → Int32 → Int32) (G240 : PM → Int32 → Int32 → Int32 → Prop) (o240 : CalOK 2 (CC240 F240 G240)) (F241 : PM → Int32 → Int32 → Int32 → Int32 → Int32) (G241 : PM → Int32 → Int32 → Int32 → Int32 → Prop) (o241 : CalOK 2 (CC241 F241 G241)) (kv27 : Int32 → Int32 → Int32 → Int32 → Int32 → Int32) (kg27 : Int32 → Int32 → Int32 → Int32 → Int32 → Prop) (hk27 : ∀ (v1 : Int32) (v2 : Int32) (v3 : Int32) (v4 : Int32) (v5 : Int32) (d6 : ZV), kg27 v1 v2 v3 v4 v5 → ZJ 2 259 27 [zR 12 1, zI v1, zI v2, zI v3, zI v4, zI v5, d6] [] p (hoI p (kv27 v1 v2 v3 v4 v5))) : ∀ (v1 : Int32) (v2 : Int32) (v3 : Int32) (v4 : Int32) (v5 : Int32) (d6 : ZV), bg12_firstOf_27 p F241 G241 kg27 v1 v2 v3 v4 v5 → ZJ 2 259 27 [zR 12 1, zI v1, zI v2, zI v3, zI v4, zI v5, d6] [] p (hoI p (bv12_firstOf_27 p F241 kv27 v1 v2 v3 v4 v5)) := by
  intro v1 v2 v3 v4 v5 d6 H
  exact roI (n := 3000) (q := 27) (la := [zR 12 1, zI v1, zI v2, zI v3, zI v4, zI v5, d6]) (sa := []) (ks := [fun la sa _ => kv27 (ai la 1) (ai la 2) (ai la 3) (ai la 4) (ai la 5)]) (gs := [fun la sa _ => zsw (tc2 la [(112, 1), (0, 0), (0, 0), (0, 0), (0, 0), (0, 0), (2, 0)] && tc2 sa []) False (kg27 (ai la 1) (ai la 2) (ai la 3) (ai la 4) (ai la 5))]) (fcons o218 (fcons o240 (fcons o241 (fnil)))) tab259 pc259 ⟨fun la sa s hg H => zcut H fun H => hk27 (ai la 1) (ai la 2) (ai la 3) (ai la 4) (ai la 5) (zld la 6) H, trivial⟩ hg H
theorem t12_firstOf_27 (p : PM) (hg : Gr 2 p) : ∀ (n : Nat), ∀ (v1 : Int32) (v2 : Int32) (v3 : Int32) (v4 : Int32) (v5 : Int32) (d6 : ZV), g12_firstOf_27 p n v1 v2 v3 v4 v5 → ZJ 2 259 27 [zR 12 1, zI v1, zI v2, zI v3, zI v4, zI v5, d6] [] p (hoI p (v12_firstOf_27 p n v1 v2 v3 v4 v5)) := by
  intro n
  induction n with
  | zero =>
    intro v1 v2 v3 v4 v5 d6 H
    exact H.elim
  | succ n ih => exact r12_firstOf_27 p hg v12_isOpen g12_isOpen ok218 v12_bestOf g12_bestOf ok240 v12_isAt g12_isAt ok241 (v12_firstOf_27 p n) (g12_firstOf_27 p n) ih
set_option maxRecDepth 100000 in
theorem r12_firstOf (p : PM) (hg : Gr 2 p) (F218 : PM → Int32 → Int32) (G218 : PM → Int32 → Prop) (o218 : CalOK 2 (CC218 F218 G218)) (F240 : PM → Int32 → Int32 → Int32 → Int32) (G240 : PM → Int32 → Int32 → Int32 → Prop) (o240 : CalOK 2 (CC240 F240 G240)) (F241 : PM → Int32 → Int32 → Int32 → Int32 → Int32) (G241 : PM → Int32 → Int32 → Int32 → Int32 → Prop) (o241 : CalOK 2 (CC241 F241 G241)) (kv27 : Int32 → Int32 → Int32 → Int32 → Int32 → Int32) (kg27 : Int32 → Int32 → Int32 → Int32 → Int32 → Prop) (hk27 : ∀ (v1 : Int32) (v2 : Int32) (v3 : Int32) (v4 : Int32) (v5 : Int32) (d6 : ZV), kg27 v1 v2 v3 v4 v5 → ZJ 2 259 27 [zR 12 1, zI v1, zI v2, zI v3, zI v4, zI v5, d6] [] p (hoI p (kv27 v1 v2 v3 v4 v5))) : ∀ (v1 : Int32) (v2 : Int32), bg12_firstOf p F218 G218 F240 G240 kg27 v1 v2 → ZJ 2 259 0 [zR 12 1, zI v1, zI v2, zJ, zJ, zJ, zJ] [] p (hoI p (bv12_firstOf p F218 F240 kv27 v1 v2)) := by
  intro v1 v2  H
  exact roI (n := 3000) (q := 0) (la := [zR 12 1, zI v1, zI v2, zJ, zJ, zJ, zJ]) (sa := []) (ks := [fun la sa _ => kv27 (ai la 1) (ai la 2) (ai la 3) (ai la 4) (ai la 5)]) (gs := [fun la sa _ => zsw (tc2 la [(112, 1), (0, 0), (0, 0), (0, 0), (0, 0), (0, 0), (2, 0)] && tc2 sa []) False (kg27 (ai la 1) (ai la 2) (ai la 3) (ai la 4) (ai la 5))]) (fcons o218 (fcons o240 (fcons o241 (fnil)))) tab259 pc259 ⟨fun la sa s hg H => zcut H fun H => hk27 (ai la 1) (ai la 2) (ai la 3) (ai la 4) (ai la 5) (zld la 6) H, trivial⟩ hg H
theorem t12_firstOf (p : PM) (hg : Gr 2 p) : ∀ (v1 : Int32) (v2 : Int32), g12_firstOf p v1 v2 → ZJ 2 259 0 [zR 12 1, zI v1, zI v2, zJ, zJ, zJ, zJ] [] p (hoI p (v12_firstOf p v1 v2)) := r12_firstOf p hg v12_isOpen g12_isOpen ok218 v12_bestOf g12_bestOf ok240 v12_isAt g12_isAt ok241 (v12_firstOf_27 p FU) (g12_firstOf_27 p FU) (t12_firstOf_27 p hg FU)
def CC259 (F : PM → Int32 → Int32 → Int32) (G : PM → Int32 → Int32 → Prop) : Cal := (259, [15, 0, 0], 1, true, fun as p => (zI (F p (ai as 1) (ai as 2)), p), fun as p => zsw (tc2 as [(112, 1), (0, 0), (0, 0)]) False (G p (ai as 1) (ai as 2)))
set_option maxRecDepth 100000 in
theorem okr259 (F : PM → Int32 → Int32 → Int32) (G : PM → Int32 → Int32 → Prop) (h : ∀ (p : PM) (v1 : Int32) (v2 : Int32), Gr 2 p → G p v1 v2 → ZJ 2 259 0 [zR 12 1, zI v1, zI v2, zJ, zJ, zJ, zJ] [] p (hoI p (F p v1 v2))) : CalOK 2 (CC259 F G) := cal_ok (m := 7) (by unfold mL; rw [mX_259]) (fun as p hg H => h p (ai as 1) (ai as 2) hg H)
theorem ok259 : CalOK 2 (CC259 v12_firstOf g12_firstOf) := okr259 v12_firstOf g12_firstOf (fun p v1 v2 hg H => t12_firstOf p hg v1 v2 H)
noncomputable def bv12_canDeal (p : PM) (F219 : PM → Int32 → Int32 → Int32) (F220 : PM → Int32 → Int32 → Int32) (v1 : Int32) (v2 : Int32) (v3 : Int32) (v4 : Int32) : Int32 :=
  if (F219 p v1 v4) = 0 then (
    (cn 0))
  else (
    if (F220 p v1 v4) = 0 then (
      (cn 0))
    else (
      if (p.1 13 8 (v1).toNatClampNeg) = 0 then (
        (cn 1))
      else (
        if ((p.1 13 15 (v2).toNatClampNeg) / (cn 2)) = ((p.1 13 15 (v3).toNatClampNeg) / (cn 2)) then (
          (cn 0))
        else (
          (cn 1)))))
noncomputable def v12_canDeal (p : PM) (v1 : Int32) (v2 : Int32) (v3 : Int32) (v4 : Int32) : Int32 := bv12_canDeal p v12_isPrice v12_isNear v1 v2 v3 v4
noncomputable def bg12_canDeal (p : PM) (F219 : PM → Int32 → Int32 → Int32) (G219 : PM → Int32 → Int32 → Prop) (F220 : PM → Int32 → Int32 → Int32) (G220 : PM → Int32 → Int32 → Prop) (v1 : Int32) (v2 : Int32) (v3 : Int32) (v4 : Int32) : Prop :=
  (G219 p v1 v4) ∧ (
  if (F219 p v1 v4) = 0 then (
    True)
  else (
    (G220 p v1 v4) ∧ (
    if (F220 p v1 v4) = 0 then (
      True)
    else (
      (inb v1 6) ∧ (
      if (p.1 13 8 (v1).toNatClampNeg) = 0 then (
        True)
      else (
        (inb v2 44) ∧ (
        (inb v3 44) ∧ (
        if ((p.1 13 15 (v2).toNatClampNeg) / (cn 2)) = ((p.1 13 15 (v3).toNatClampNeg) / (cn 2)) then (
          True)
        else (
          True)))))))))
noncomputable def g12_canDeal (p : PM) (v1 : Int32) (v2 : Int32) (v3 : Int32) (v4 : Int32) : Prop := bg12_canDeal p v12_isPrice g12_isPrice v12_isNear g12_isNear v1 v2 v3 v4
def R260 : List Row := [(0, .iload_n 1, 1, 0, (0, 0, 0, 0, 0, 0)), (1, .iload 4, 2, 0, (0, 0, 0, 0, 0, 0)), (3, .invokestatic 334, 3, 0, (0, 2, 0, 0, 0, 0)), (6, .ifCond .eq 45, 3, 0, (0, 0, 0, 0, 0, 0)), (9, .aload_n 0, 1, 0, (0, 0, 0, 0, 0, 0)), (10, .iload_n 1, 1, 0, (0, 0, 0, 0, 0, 0)), (11, .iload 4, 2, 0, (0, 0, 0, 0, 0, 0)), (13, .invokevirtual 305, 3, 0, (1, 3, 0, 0, 1, 0)), (16, .ifCond .eq 35, 3, 0, (0, 0, 0, 0, 0, 0)), (19, .aload_n 0, 1, 0, (0, 0, 0, 0, 0, 0)), (20, .getfield 39, 3, 0, (12, 10, 16, 2, 8, 0)), (23, .iload_n 1, 1, 0, (0, 0, 0, 0, 0, 0)), (24, .iaload, 1, 0, (13, 6, 0, 0, 0, 0)), (25, .ifCond .eq 22, 3, 0, (0, 0, 0, 0, 0, 0)), (28, .aload_n 0, 1, 0, (0, 0, 0, 0, 0, 0)), (29, .getfield 66, 3, 0, (12, 21, 16, 2, 15, 0)), (32, .iload_n 2, 1, 0, (0, 0, 0, 0, 0, 0)), (33, .iaload, 1, 0, (13, 44, 0, 0, 0, 0)), (34, .iconst 2, 1, 0, (0, 0, 0, 0, 0, 2)), (35, .idiv, 1, 0, (0, 0, 0, 0, 0, 0)), (36, .aload_n 0, 1, 0, (0, 0, 0, 0, 0, 0)), (37, .getfield 66, 3, 0, (12, 21, 16, 2, 15, 0)), (40, .iload_n 3, 1, 0, (0, 0, 0, 0, 0, 0)), (41, .iaload, 1, 0, (13, 44, 0, 0, 0, 0)), (42, .iconst 2, 1, 0, (0, 0, 0, 0, 0, 2)), (43, .idiv, 1, 0, (0, 0, 0, 0, 0, 0)), (44, .if_icmp .eq 7, 3, 0, (0, 0, 0, 0, 0, 0)), (47, .iconst 1, 1, 0, (0, 0, 0, 0, 0, 1)), (48, .goto 4, 3, 0, (0, 0, 0, 0, 0, 0)), (51, .iconst 0, 1, 0, (0, 0, 0, 0, 0, 0)), (52, .ireturn, 1, 0, (1, 0, 0, 0, 0, 0))]
set_option maxRecDepth 100000 in
theorem rk260 : R260.all (rok 2 260 1 [(219, [0, 0]), (220, [15, 0, 0])]) = true := by decide +kernel
set_option maxRecDepth 100000 in
theorem tab260 {F219 : PM → Int32 → Int32 → Int32} {G219 : PM → Int32 → Int32 → Prop} {F220 : PM → Int32 → Int32 → Int32} {G220 : PM → Int32 → Int32 → Prop} : TabOK 2 260 1 [CC219 F219 G219, CC220 F220 G220] R260 := tab_ok (K := K260) rfl rfl (fun h => d260 h) rk260 (by decide +kernel)
set_option maxRecDepth 100000 in
theorem pc260 : cutpc [] R260 = true := by decide +kernel
set_option maxRecDepth 100000 in
theorem r12_canDeal (p : PM) (hg : Gr 2 p) (F219 : PM → Int32 → Int32 → Int32) (G219 : PM → Int32 → Int32 → Prop) (o219 : CalOK 2 (CC219 F219 G219)) (F220 : PM → Int32 → Int32 → Int32) (G220 : PM → Int32 → Int32 → Prop) (o220 : CalOK 2 (CC220 F220 G220)) : ∀ (v1 : Int32) (v2 : Int32) (v3 : Int32) (v4 : Int32), bg12_canDeal p F219 G219 F220 G220 v1 v2 v3 v4 → ZJ 2 260 0 [zR 12 1, zI v1, zI v2, zI v3, zI v4] [] p (hoI p (bv12_canDeal p F219 F220 v1 v2 v3 v4)) := by
  intro v1 v2 v3 v4  H
  exact roI (n := 3000) (q := 0) (la := [zR 12 1, zI v1, zI v2, zI v3, zI v4]) (sa := []) (ks := []) (gs := []) (fcons o219 (fcons o220 (fnil))) tab260 pc260 trivial hg H
theorem t12_canDeal (p : PM) (hg : Gr 2 p) : ∀ (v1 : Int32) (v2 : Int32) (v3 : Int32) (v4 : Int32), g12_canDeal p v1 v2 v3 v4 → ZJ 2 260 0 [zR 12 1, zI v1, zI v2, zI v3, zI v4] [] p (hoI p (v12_canDeal p v1 v2 v3 v4)) := r12_canDeal p hg v12_isPrice g12_isPrice ok219 v12_isNear g12_isNear ok220
def CC260 (F : PM → Int32 → Int32 → Int32 → Int32 → Int32) (G : PM → Int32 → Int32 → Int32 → Int32 → Prop) : Cal := (260, [15, 0, 0, 0, 0], 1, true, fun as p => (zI (F p (ai as 1) (ai as 2) (ai as 3) (ai as 4)), p), fun as p => zsw (tc2 as [(112, 1), (0, 0), (0, 0), (0, 0), (0, 0)]) False (G p (ai as 1) (ai as 2) (ai as 3) (ai as 4)))
set_option maxRecDepth 100000 in
theorem okr260 (F : PM → Int32 → Int32 → Int32 → Int32 → Int32) (G : PM → Int32 → Int32 → Int32 → Int32 → Prop) (h : ∀ (p : PM) (v1 : Int32) (v2 : Int32) (v3 : Int32) (v4 : Int32), Gr 2 p → G p v1 v2 v3 v4 → ZJ 2 260 0 [zR 12 1, zI v1, zI v2, zI v3, zI v4] [] p (hoI p (F p v1 v2 v3 v4))) : CalOK 2 (CC260 F G) := cal_ok (m := 5) (by unfold mL; rw [mX_260]) (fun as p hg H => h p (ai as 1) (ai as 2) (ai as 3) (ai as 4) hg H)
theorem ok260 : CalOK 2 (CC260 v12_canDeal g12_canDeal) := okr260 v12_canDeal g12_canDeal (fun p v1 v2 v3 v4 hg H => t12_canDeal p hg v1 v2 v3 v4 H)
noncomputable def bv12_falls1 (F225 : PM → Int32 → PM) (F227 : PM → Int32 → PM) (F236 : PM → Int32 → Int32 → Int32 → PM) (p : PM) (v1 : Int32) (v2 : Int32) : PM :=
  let p1 : PM := F236 p v1 v2 (cn 1)
  if (p1.1 15 3 (v1).toNatClampNeg) = 0 then (
    p1)
  else (
    if (p1.1 13 19 (v1).toNatClampNeg) = (cn 1) then (
      if (p1.1 13 22 (v1).toNatClampNeg) = 0 then (
        let p2 : PM := F227 p1 v1
        let p3 : PM := F225 p2 v1
        p3)
      else (
        p1))
    else (
      p1))
noncomputable def v12_falls1 (p : PM) (v1 : Int32) (v2 : Int32) : PM := bv12_falls1 v12_newTurn v12_showsAnew v12_falls p v1 v2
noncomputable def bg12_falls1 (F225 : PM → Int32 → PM) (G225 : PM → Int32 → Prop) (F227 : PM → Int32 → PM) (G227 : PM → Int32 → Prop) (F236 : PM → Int32 → Int32 → Int32 → PM) (G236 : PM → Int32 → Int32 → Int32 → Prop) (p : PM) (v1 : Int32) (v2 : Int32) : Prop :=
  (G236 p v1 v2 (cn 1)) ∧ (
  let p1 : PM := F236 p v1 v2 (cn 1)
  (inb v1 44) ∧ (
  if (p1.1 15 3 (v1).toNatClampNeg) = 0 then (
    True)
  else (
    (inb v1 44) ∧ (
    if (p1.1 13 19 (v1).toNatClampNeg) = (cn 1) then (
      (inb v1 44) ∧ (
      if (p1.1 13 22 (v1).toNatClampNeg) = 0 then (
        (G227 p1 v1) ∧ (
        let p2 : PM := F227 p1 v1
        (G225 p2 v1) ∧ (
        let p3 : PM := F225 p2 v1
        True)))
      else (
        True)))
    else (
      True)))))
noncomputable def g12_falls1 (p : PM) (v1 : Int32) (v2 : Int32) : Prop := bg12_falls1 v12_newTurn g12_newTurn v12_showsAnew g12_showsAnew v12_falls g12_falls p v1 v2
def R261 : List Row := [(0, .aload_n 0, 1, 0, (0, 0, 0, 0, 0, 0)), (1, .iload_n 1, 1, 0, (0, 0, 0, 0, 0, 0)), (2, .iload_n 2, 1, 0, (0, 0, 0, 0, 0, 0)), (3, .iconst 1, 1, 0, (0, 0, 0, 0, 0, 1)), (4, .invokevirtual 273, 3, 0, (0, 4, 0, 0, 1, 0)), (7, .aload_n 0, 1, 0, (0, 0, 0, 0, 0, 0)), (8, .getfield 60, 3, 0, (12, 19, 18, 2, 3, 0)), (11, .iload_n 1, 1, 0, (0, 0, 0, 0, 0, 0)), (12, .baload, 1, 0, (15, 44, 0, 0, 0, 0)), (13, .ifCond .eq 32, 3, 0, (0, 0, 0, 0, 0, 0)), (16, .aload_n 0, 1, 0, (0, 0, 0, 0, 0, 0)), (17, .getfield 84, 3, 0, (12, 27, 16, 2, 19, 0)), (20, .iload_n 1, 1, 0, (0, 0, 0, 0, 0, 0)), (21, .iaload, 1, 0, (13, 44, 0, 0, 0, 0)), (22, .iconst 1, 1, 0, (0, 0, 0, 0, 0, 1)), (23, .if_icmp .ne 22, 3, 0, (0, 0, 0, 0, 0, 0)), (26, .aload_n 0, 1, 0, (0, 0, 0, 0, 0, 0)), (27, .getfield 93, 3, 0, (12, 30, 16, 2, 22, 0)), (30, .iload_n 1, 1, 0, (0, 0, 0, 0, 0, 0)), (31, .iaload, 1, 0, (13, 44, 0, 0, 0, 0)), (32, .ifCond .ne 13, 3, 0, (0, 0, 0, 0, 0, 0)), (35, .aload_n 0, 1, 0, (0, 0, 0, 0, 0, 0)), (36, .iload_n 1, 1, 0, (0, 0, 0, 0, 0, 0)), (37, .invokevirtual 217, 3, 0, (1, 2, 0, 0, 1, 0)), (40, .aload_n 0, 1, 0, (0, 0, 0, 0, 0, 0)), (41, .iload_n 1, 1, 0, (0, 0, 0, 0, 0, 0)), (42, .invokevirtual 221, 3, 0, (2, 2, 0, 0, 1, 0)), (45, .return_, 1, 0, (0, 0, 0, 0, 0, 0))]
set_option maxRecDepth 100000 in
theorem rk261 : R261.all (rok 2 261 0 [(236, [15, 0, 0, 0]), (227, [15, 0]), (225, [15, 0])]) = true := by decide +kernel
set_option maxRecDepth 100000 in
theorem tab261 {F236 : PM → Int32 → Int32 → Int32 → PM} {G236 : PM → Int32 → Int32 → Int32 → Prop} {F227 : PM → Int32 → PM} {G227 : PM → Int32 → Prop} {F225 : PM → Int32 → PM} {G225 : PM → Int32 → Prop} : TabOK 2 261 0 [CC236 F236 G236, CC227 F227 G227, CC225 F225 G225] R261 := tab_ok (K := K261) rfl rfl (fun h => d261 h) rk261 (by decide +kernel)
set_option maxRecDepth 100000 in
theorem pc261 : cutpc [] R261 = true := by decide +kernel
set_option maxRecDepth 100000 in
theorem r12_falls1 (F236 : PM → Int32 → Int32 → Int32 → PM) (G236 : PM → Int32 → Int32 → Int32 → Prop) (o236 : CalOK 2 (CC236 F236 G236)) (F227 : PM → Int32 → PM) (G227 : PM → Int32 → Prop) (o227 : CalOK 2 (CC227 F227 G227)) (F225 : PM → Int32 → PM) (G225 : PM → Int32 → Prop) (o225 : CalOK 2 (CC225 F225 G225)) : ∀ (p : PM) (v1 : Int32) (v2 : Int32), Gr 2 p → bg12_falls1 F225 G225 F227 G227 F236 G236 p v1 v2 → ZJ 2 261 0 [zR 12 1, zI v1, zI v2] [] p (hwV (bv12_falls1 F225 F227 F236 p v1 v2)) := by
  intro p v1 v2  hg H
  exact rwV (n := 3000) (q := 0) (la := [zR 12 1, zI v1, zI v2]) (sa := []) (ks := []) (gs := []) (fcons o236 (fcons o227 (fcons o225 (fnil)))) tab261 pc261 trivial hg H
theorem t12_falls1 : ∀ (p : PM) (v1 : Int32) (v2 : Int32), Gr 2 p → g12_falls1 p v1 v2 → ZJ 2 261 0 [zR 12 1, zI v1, zI v2] [] p (hwV (v12_falls1 p v1 v2)) := r12_falls1 v12_falls g12_falls ok236 v12_showsAnew g12_showsAnew ok227 v12_newTurn g12_newTurn ok225
def CC261 (F : PM → Int32 → Int32 → PM) (G : PM → Int32 → Int32 → Prop) : Cal := (261, [15, 0, 0], 0, false, fun as p => (zJ, (F p (ai as 1) (ai as 2))), fun as p => zsw (tc2 as [(112, 1), (0, 0), (0, 0)]) False (G p (ai as 1) (ai as 2)))
set_option maxRecDepth 100000 in
theorem okr261 (F : PM → Int32 → Int32 → PM) (G : PM → Int32 → Int32 → Prop) (h : ∀ (p : PM) (v1 : Int32) (v2 : Int32), Gr 2 p → G p v1 v2 → ZJ 2 261 0 [zR 12 1, zI v1, zI v2] [] p (hwV (F p v1 v2))) : CalOK 2 (CC261 F G) := cal_ok (m := 3) (by unfold mL; rw [mX_261]) (fun as p hg H => h p (ai as 1) (ai as 2) hg H)
theorem ok261 : CalOK 2 (CC261 v12_falls1 g12_falls1) := okr261 v12_falls1 g12_falls1 t12_falls1
noncomputable def bv12_joins_53 (p : PM) : Int32 × PM :=
  ((cn 0), p)
noncomputable def v12_joins_53 (p : PM) : Int32 × PM := bv12_joins_53 p
noncomputable def bg12_joins_53 (p : PM) : Prop :=
  True
noncomputable def g12_joins_53 (p : PM) : Prop := bg12_joins_53 p
noncomputable def bv12_joins_197 (p : PM) (v2 : Int32) (v3 : Int32) (v4 : Int32) (v5 : Int32) (v6 : Int32) (v8 : Int32) (v9 : Int32) : Int32 × PM :=
  ((cn 0), p)
noncomputable def v12_joins_197 (p : PM) (v2 : Int32) (v3 : Int32) (v4 : Int32) (v5 : Int32) (v6 : Int32) (v8 : Int32) (v9 : Int32) : Int32 × PM := bv12_joins_197 p v2 v3 v4 v5 v6 v8 v9
noncomputable def bg12_joins_197 (p : PM) (v2 : Int32) (v3 : Int32) (v4 : Int32) (v5 : Int32) (v6 : Int32) (v8 : Int32) (v9 : Int32) : Prop :=
  True
noncomputable def g12_joins_197 (p : PM) (v2 : Int32) (v3 : Int32) (v4 : Int32) (v5 : Int32) (v6 : Int32) (v8 : Int32) (v9 : Int32) : Prop := bg12_joins_197 p v2 v3 v4 v5 v6 v8 v9
noncomputable def bv12_joins_258 (F233 : PM → Int32 → Int32 → Int32 → Int32 → Int32 → PM) (F237 : PM → Int32 → PM) (F261 : PM → Int32 → Int32 → PM) (p : PM) (v2 : Int32) (v3 : Int32) (v4 : Int32) (v5 : Int32) (v6 : Int32) (v8 : Int32) (v9 : Int32) (v11 : Int32) (s0 : Int32) (s1 : Int32) : Int32 × PM :=
  if v2 = 0 then (
    let p1 : PM := F233 p s1 s0 (p.1 13 15 (v4).toNatClampNeg) v8 v11
    if v2 = 0 then (
      if v2 = 0 then (
        let p2 : PM := F233 p1 (v3 + (cn 1)) (p1.1 13 15 (v4).toNatClampNeg) (p1.1 13 15 (v6).toNatClampNeg) v9 v11
        let p3 : PM := F261 p2 v4 v11
        let p4 : PM := F261 p3 v5 v11
        let p5 : PM := F261 p4 v6 v11
        let p6 : PM := F237 p5 v4
        let p7 : PM := F237 p6 v5
        let p8 : PM := F237 p7 v6
        ((cn 1), p8))
      else (
        let p9 : PM := F233 p1 (v3 + (cn 1)) (p1.1 13 15 (v4).toNatClampNeg) (p1.1 13 15 (v4).toNatClampNeg) v9 v11
        let p10 : PM := F261 p9 v4 v11
        let p11 : PM := F261 p10 v5 v11
        let p12 : PM := F261 p11 v6 v11
        let p13 : PM := F237 p12 v4
        let p14 : PM := F237 p13 v5
        let p15 : PM := F237 p14 v6
        ((cn 1), p15)))
    else (
      if v2 = 0 then (
        let p16 : PM := F233 p1 (v3 + (cn 1)) (p1.1 13 15 (v6).toNatClampNeg) (p1.1 13 15 (v6).toNatClampNeg) v9 v11
        let p17 : PM := F261 p16 v4 v11
        let p18 : PM := F261 p17 v5 v11
        let p19 : PM := F261 p18 v6 v11
        let p20 : PM := F237 p19 v4
        let p21 : PM := F237 p20 v5
        let p22 : PM := F237 p21 v6
        ((cn 1), p22))
      else (
        let p23 : PM := F233 p1 (v3 + (cn 1)) (p1.1 13 15 (v6).toNatClampNeg) (p1.1 13 15 (v4).toNatClampNeg) v9 v11
        let p24 : PM := F261 p23 v4 v11
        let p25 : PM := F261 p24 v5 v11
        let p26 : PM := F261 p25 v6 v11
        let p27 : PM := F237 p26 v4
        let p28 : PM := F237 p27 v5
        let p29 : PM := F237 p28 v6
        ((cn 1), p29))))
  else (
    let p30 : PM := F233 p s1 s0 (p.1 13 15 (v5).toNatClampNeg) v8 v11
    if v2 = 0 then (
      if v2 = 0 then (
        let p31 : PM := F233 p30 (v3 + (cn 1)) (p30.1 13 15 (v4).toNatClampNeg) (p30.1 13 15 (v6).toNatClampNeg) v9 v11
        let p32 : PM := F261 p31 v4 v11
        let p33 : PM := F261 p32 v5 v11
        let p34 : PM := F261 p33 v6 v11
        let p35 : PM := F237 p34 v4
        let p36 : PM := F237 p35 v5
        let p37 : PM := F237 p36 v6
        ((cn 1), p37))
      else (
        let p38 : PM := F233 p30 (v3 + (cn 1)) (p30.1 13 15 (v4).toNatClampNeg) (p30.1 13 15 (v4).toNatClampNeg) v9 v11
        let p39 : PM := F261 p38 v4 v11
        let p40 : PM := F261 p39 v5 v11
        let p41 : PM := F261 p40 v6 v11
        let p42 : PM := F237 p41 v4
        let p43 : PM := F237 p42 v5
        let p44 : PM := F237 p43 v6
        ((cn 1), p44)))
    else (
      if v2 = 0 then (
        let p45 : PM := F233 p30 (v3 + (cn 1)) (p30.1 13 15 (v6).toNatClampNeg) (p30.1 13 15 (v6).toNatClampNeg) v9 v11
        let p46 : PM := F261 p45 v4 v11
        let p47 : PM := F261 p46 v5 v11
        let p48 : PM := F261 p47 v6 v11
        let p49 : PM := F237 p48 v4
        let p50 : PM := F237 p49 v5
        let p51 : PM := F237 p50 v6
        ((cn 1), p51))
      else (
        let p52 : PM := F233 p30 (v3 + (cn 1)) (p30.1 13 15 (v6).toNatClampNeg) (p30.1 13 15 (v4).toNatClampNeg) v9 v11
        let p53 : PM := F261 p52 v4 v11
        let p54 : PM := F261 p53 v5 v11
        let p55 : PM := F261 p54 v6 v11
        let p56 : PM := F237 p55 v4
        let p57 : PM := F237 p56 v5
        let p58 : PM := F237 p57 v6
        ((cn 1), p58))))
noncomputable def v12_joins_258 (p : PM) (v2 : Int32) (v3 : Int32) (v4 : Int32) (v5 : Int32) (v6 : Int32) (v8 : Int32) (v9 : Int32) (v11 : Int32) (s0 : Int32) (s1 : Int32) : Int32 × PM := bv12_joins_258 v12_deals v12_guards v12_falls1 p v2 v3 v4 v5 v6 v8 v9 v11 s0 s1
noncomputable def bg12_joins_258 (F233 : PM → Int32 → Int32 → Int32 → Int32 → Int32 → PM) (G233 : PM → Int32 → Int32 → Int32 → Int32 → Int32 → Prop) (F237 : PM → Int32 → PM) (G237 : PM → Int32 → Prop) (F261 : PM → Int32 → Int32 → PM) (G261 : PM → Int32 → Int32 → Prop) (p : PM) (v2 : Int32) (v3 : Int32) (v4 : Int32) (v5 : Int32) (v6 : Int32) (v8 : Int32) (v9 : Int32) (v11 : Int32) (s0 : Int32) (s1 : Int32) : Prop :=
  if v2 = 0 then (
    (inb v4 44) ∧ (
    (G233 p s1 s0 (p.1 13 15 (v4).toNatClampNeg) v8 v11) ∧ (
    let p1 : PM := F233 p s1 s0 (p.1 13 15 (v4).toNatClampNeg) v8 v11
    if v2 = 0 then (
      (inb v4 44) ∧ (
      if v2 = 0 then (
        (inb v6 44) ∧ (
        (G233 p1 (v3 + (cn 1)) (p1.1 13 15 (v4).toNatClampNeg) (p1.1 13 15 (v6).toNatClampNeg) v9 v11) ∧ (
        let p2 : PM := F233 p1 (v3 + (cn 1)) (p1.1 13 15 (v4).toNatClampNeg) (p1.1 13 15 (v6).toNatClampNeg) v9 v11
        (G261 p2 v4 v11) ∧ (
        let p3 : PM := F261 p2 v4 v11
        (G261 p3 v5 v11) ∧ (
        let p4 : PM := F261 p3 v5 v11
        (G261 p4 v6 v11) ∧ (
        let p5 : PM := F261 p4 v6 v11
        (G237 p5 v4) ∧ (
        let p6 : PM := F237 p5 v4
        (G237 p6 v5) ∧ (
        let p7 : PM := F237 p6 v5
        (G237 p7 v6) ∧ (
        let p8 : PM := F237 p7 v6
        True)))))))))
      else (
        (inb v4 44) ∧ (
        (G233 p1 (v3 + (cn 1)) (p1.1 13 15 (v4).toNatClampNeg) (p1.1 13 15 (v4).toNatClampNeg) v9 v11) ∧ (
        let p9 : PM := F233 p1 (v3 + (cn 1)) (p1.1 13 15 (v4).toNatClampNeg) (p1.1 13 15 (v4).toNatClampNeg) v9 v11
        (G261 p9 v4 v11) ∧ (
        let p10 : PM := F261 p9 v4 v11
        (G261 p10 v5 v11) ∧ (
        let p11 : PM := F261 p10 v5 v11
        (G261 p11 v6 v11) ∧ (
        let p12 : PM := F261 p11 v6 v11
        (G237 p12 v4) ∧ (
        let p13 : PM := F237 p12 v4
        (G237 p13 v5) ∧ (
        let p14 : PM := F237 p13 v5
        (G237 p14 v6) ∧ (
        let p15 : PM := F237 p14 v6
        True)))))))))))
    else (
      (inb v6 44) ∧ (
      if v2 = 0 then (
        (inb v6 44) ∧ (
        (G233 p1 (v3 + (cn 1)) (p1.1 13 15 (v6).toNatClampNeg) (p1.1 13 15 (v6).toNatClampNeg) v9 v11) ∧ (
        let p16 : PM := F233 p1 (v3 + (cn 1)) (p1.1 13 15 (v6).toNatClampNeg) (p1.1 13 15 (v6).toNatClampNeg) v9 v11
        (G261 p16 v4 v11) ∧ (
        let p17 : PM := F261 p16 v4 v11
        (G261 p17 v5 v11) ∧ (
        let p18 : PM := F261 p17 v5 v11
        (G261 p18 v6 v11) ∧ (
        let p19 : PM := F261 p18 v6 v11
        (G237 p19 v4) ∧ (
        let p20 : PM := F237 p19 v4
        (G237 p20 v5) ∧ (
        let p21 : PM := F237 p20 v5
        (G237 p21 v6) ∧ (
        let p22 : PM := F237 p21 v6
        True)))))))))
      else (
        (inb v4 44) ∧ (
        (G233 p1 (v3 + (cn 1)) (p1.1 13 15 (v6).toNatClampNeg) (p1.1 13 15 (v4).toNatClampNeg) v9 v11) ∧ (
        let p23 : PM := F233 p1 (v3 + (cn 1)) (p1.1 13 15 (v6).toNatClampNeg) (p1.1 13 15 (v4).toNatClampNeg) v9 v11
        (G261 p23 v4 v11) ∧ (
        let p24 : PM := F261 p23 v4 v11
        (G261 p24 v5 v11) ∧ (
        let p25 : PM := F261 p24 v5 v11
        (G261 p25 v6 v11) ∧ (
        let p26 : PM := F261 p25 v6 v11
        (G237 p26 v4) ∧ (
        let p27 : PM := F237 p26 v4
        (G237 p27 v5) ∧ (
        let p28 : PM := F237 p27 v5
        (G237 p28 v6) ∧ (
        let p29 : PM := F237 p28 v6
        True))))))))))))))
  else (
    (inb v5 44) ∧ (
    (G233 p s1 s0 (p.1 13 15 (v5).toNatClampNeg) v8 v11) ∧ (
    let p30 : PM := F233 p s1 s0 (p.1 13 15 (v5).toNatClampNeg) v8 v11
    if v2 = 0 then (
      (inb v4 44) ∧ (
      if v2 = 0 then (
        (inb v6 44) ∧ (
        (G233 p30 (v3 + (cn 1)) (p30.1 13 15 (v4).toNatClampNeg) (p30.1 13 15 (v6).toNatClampNeg) v9 v11) ∧ (
        let p31 : PM := F233 p30 (v3 + (cn 1)) (p30.1 13 15 (v4).toNatClampNeg) (p30.1 13 15 (v6).toNatClampNeg) v9 v11
        (G261 p31 v4 v11) ∧ (
        let p32 : PM := F261 p31 v4 v11
        (G261 p32 v5 v11) ∧ (
        let p33 : PM := F261 p32 v5 v11
        (G261 p33 v6 v11) ∧ (
        let p34 : PM := F261 p33 v6 v11
        (G237 p34 v4) ∧ (
        let p35 : PM := F237 p34 v4
        (G237 p35 v5) ∧ (
        let p36 : PM := F237 p35 v5
        (G237 p36 v6) ∧ (
        let p37 : PM := F237 p36 v6
        True)))))))))
      else (
        (inb v4 44) ∧ (
        (G233 p30 (v3 + (cn 1)) (p30.1 13 15 (v4).toNatClampNeg) (p30.1 13 15 (v4).toNatClampNeg) v9 v11) ∧ (
        let p38 : PM := F233 p30 (v3 + (cn 1)) (p30.1 13 15 (v4).toNatClampNeg) (p30.1 13 15 (v4).toNatClampNeg) v9 v11
        (G261 p38 v4 v11) ∧ (
        let p39 : PM := F261 p38 v4 v11
        (G261 p39 v5 v11) ∧ (
        let p40 : PM := F261 p39 v5 v11
        (G261 p40 v6 v11) ∧ (
        let p41 : PM := F261 p40 v6 v11
        (G237 p41 v4) ∧ (
        let p42 : PM := F237 p41 v4
        (G237 p42 v5) ∧ (
        let p43 : PM := F237 p42 v5
        (G237 p43 v6) ∧ (
        let p44 : PM := F237 p43 v6
        True)))))))))))
    else (
      (inb v6 44) ∧ (
      if v2 = 0 then (
        (inb v6 44) ∧ (
        (G233 p30 (v3 + (cn 1)) (p30.1 13 15 (v6).toNatClampNeg) (p30.1 13 15 (v6).toNatClampNeg) v9 v11) ∧ (
        let p45 : PM := F233 p30 (v3 + (cn 1)) (p30.1 13 15 (v6).toNatClampNeg) (p30.1 13 15 (v6).toNatClampNeg) v9 v11
        (G261 p45 v4 v11) ∧ (
        let p46 : PM := F261 p45 v4 v11
        (G261 p46 v5 v11) ∧ (
        let p47 : PM := F261 p46 v5 v11
        (G261 p47 v6 v11) ∧ (
        let p48 : PM := F261 p47 v6 v11
        (G237 p48 v4) ∧ (
        let p49 : PM := F237 p48 v4
        (G237 p49 v5) ∧ (
        let p50 : PM := F237 p49 v5
        (G237 p50 v6) ∧ (
        let p51 : PM := F237 p50 v6
        True)))))))))
      else (
        (inb v4 44) ∧ (
        (G233 p30 (v3 + (cn 1)) (p30.1 13 15 (v6).toNatClampNeg) (p30.1 13 15 (v4).toNatClampNeg) v9 v11) ∧ (
        let p52 : PM := F233 p30 (v3 + (cn 1)) (p30.1 13 15 (v6).toNatClampNeg) (p30.1 13 15 (v4).toNatClampNeg) v9 v11
        (G261 p52 v4 v11) ∧ (
        let p53 : PM := F261 p52 v4 v11
        (G261 p53 v5 v11) ∧ (
        let p54 : PM := F261 p53 v5 v11
        (G261 p54 v6 v11) ∧ (
        let p55 : PM := F261 p54 v6 v11
        (G237 p55 v4) ∧ (
        let p56 : PM := F237 p55 v4
        (G237 p56 v5) ∧ (
        let p57 : PM := F237 p56 v5
        (G237 p57 v6) ∧ (
        let p58 : PM := F237 p57 v6
        True))))))))))))))
noncomputable def g12_joins_258 (p : PM) (v2 : Int32) (v3 : Int32) (v4 : Int32) (v5 : Int32) (v6 : Int32) (v8 : Int32) (v9 : Int32) (v11 : Int32) (s0 : Int32) (s1 : Int32) : Prop := bg12_joins_258 v12_deals g12_deals v12_guards g12_guards v12_falls1 g12_falls1 p v2 v3 v4 v5 v6 v8 v9 v11 s0 s1
noncomputable def bv12_joins_119 (F226 : PM → Int32 → Int32) (F244 : PM → Int32 → Int32 → Int32) (F260 : PM → Int32 → Int32 → Int32 → Int32 → Int32) (kv197 : PM → Int32 → Int32 → Int32 → Int32 → Int32 → Int32 → Int32 → Int32 × PM) (kv258 : PM → Int32 → Int32 → Int32 → Int32 → Int32 → Int32 → Int32 → Int32 → Int32 → Int32 → Int32 × PM) (p : PM) (v2 : Int32) (v3 : Int32) (v4 : Int32) (v5 : Int32) (v6 : Int32) (v8 : Int32) (v9 : Int32) (s0 : Int32) : Int32 × PM :=
  if s0 = 0 then (
    kv197 p v2 v3 v4 v5 v6 v8 v9)
  else (
    if v2 = 0 then (
      if (F260 p v3 v5 v4 v8) = 0 then (
        kv197 p v2 v3 v4 v5 v6 v8 v9)
      else (
        if (F260 p (v3 + (cn 1)) v4 v6 v9) = 0 then (
          kv197 p v2 v3 v4 v5 v6 v8 v9)
        else (
          let x1 : Int32 := (F244 p (F226 p v4) (F244 p (F226 p v5) (F226 p v6)))
          if v2 = 0 then (
            kv258 p v2 v3 v4 v5 v6 v8 v9 x1 (p.1 13 15 (v5).toNatClampNeg) v3)
          else (
            kv258 p v2 v3 v4 v5 v6 v8 v9 x1 (p.1 13 15 (v4).toNatClampNeg) v3))))
    else (
      if (F260 p v3 v4 v5 v8) = 0 then (
        kv197 p v2 v3 v4 v5 v6 v8 v9)
      else (
        if (F260 p (v3 + (cn 1)) v6 v4 v9) = 0 then (
          kv197 p v2 v3 v4 v5 v6 v8 v9)
        else (
          let x2 : Int32 := (F244 p (F226 p v4) (F244 p (F226 p v5) (F226 p v6)))
          if v2 = 0 then (
            kv258 p v2 v3 v4 v5 v6 v8 v9 x2 (p.1 13 15 (v5).toNatClampNeg) v3)
          else (
            kv258 p v2 v3 v4 v5 v6 v8 v9 x2 (p.1 13 15 (v4).toNatClampNeg) v3)))))
noncomputable def v12_joins_119 (p : PM) (v2 : Int32) (v3 : Int32) (v4 : Int32) (v5 : Int32) (v6 : Int32) (v8 : Int32) (v9 : Int32) (s0 : Int32) : Int32 × PM := bv12_joins_119 v12_showsNow v12_least v12_canDeal v12_joins_197 v12_joins_258 p v2 v3 v4 v5 v6 v8 v9 s0
noncomputable def bg12_joins_119 (F226 : PM → Int32 → Int32) (G226 : PM → Int32 → Prop) (F244 : PM → Int32 → Int32 → Int32) (G244 : PM → Int32 → Int32 → Prop) (F260 : PM → Int32 → Int32 → Int32 → Int32 → Int32) (G260 : PM → Int32 → Int32 → Int32 → Int32 → Prop) (kg197 : PM → Int32 → Int32 → Int32 → Int32 → Int32 → Int32 → Int32 → Prop) (kg258 : PM → Int32 → Int32 → Int32 → Int32 → Int32 → Int32 → Int32 → Int32 → Int32 → Int32 → Prop) (p : PM) (v2 : Int32) (v3 : Int32) (v4 : Int32) (v5 : Int32) (v6 : Int32) (v8 : Int32) (v9 : Int32) (s0 : Int32) : Prop :=
  if s0 = 0 then (
    kg197 p v2 v3 v4 v5 v6 v8 v9)
  else (
    if v2 = 0 then (
      (G260 p v3 v5 v4 v8) ∧ (
      if (F260 p v3 v5 v4 v8) = 0 then (
        kg197 p v2 v3 v4 v5 v6 v8 v9)
      else (
        (G260 p (v3 + (cn 1)) v4 v6 v9) ∧ (
        if (F260 p (v3 + (cn 1)) v4 v6 v9) = 0 then (
          kg197 p v2 v3 v4 v5 v6 v8 v9)
        else (
          (G226 p v4) ∧ (
          (G226 p v5) ∧ (
          (G226 p v6) ∧ (
          (G244 p (F226 p v5) (F226 p v6)) ∧ (
          (G244 p (F226 p v4) (F244 p (F226 p v5) (F226 p v6))) ∧ (
          let x1 : Int32 := (F244 p (F226 p v4) (F244 p (F226 p v5) (F226 p v6)))
          if v2 = 0 then (
            (inb v5 44) ∧ (
            kg258 p v2 v3 v4 v5 v6 v8 v9 x1 (p.1 13 15 (v5).toNatClampNeg) v3))
          else (
            (inb v4 44) ∧ (
            kg258 p v2 v3 v4 v5 v6 v8 v9 x1 (p.1 13 15 (v4).toNatClampNeg) v3))))))))))))
    else (
      (G260 p v3 v4 v5 v8) ∧ (
      if (F260 p v3 v4 v5 v8) = 0 then (
        kg197 p v2 v3 v4 v5 v6 v8 v9)
      else (
        (G260 p (v3 + (cn 1)) v6 v4 v9) ∧ (
        if (F260 p (v3 + (cn 1)) v6 v4 v9) = 0 then (
          kg197 p v2 v3 v4 v5 v6 v8 v9)
        else (
          (G226 p v4) ∧ (
          (G226 p v5) ∧ (
          (G226 p v6) ∧ (
          (G244 p (F226 p v5) (F226 p v6)) ∧ (
          (G244 p (F226 p v4) (F244 p (F226 p v5) (F226 p v6))) ∧ (
          let x2 : Int32 := (F244 p (F226 p v4) (F244 p (F226 p v5) (F226 p v6)))
          if v2 = 0 then (
            (inb v5 44) ∧ (
            kg258 p v2 v3 v4 v5 v6 v8 v9 x2 (p.1 13 15 (v5).toNatClampNeg) v3))
          else (
            (inb v4 44) ∧ (
            kg258 p v2 v3 v4 v5 v6 v8 v9 x2 (p.1 13 15 (v4).toNatClampNeg) v3)))))))))))))
noncomputable def g12_joins_119 (p : PM) (v2 : Int32) (v3 : Int32) (v4 : Int32) (v5 : Int32) (v6 : Int32) (v8 : Int32) (v9 : Int32) (s0 : Int32) : Prop := bg12_joins_119 v12_showsNow g12_showsNow v12_least g12_least v12_canDeal g12_canDeal g12_joins_197 g12_joins_258 p v2 v3 v4 v5 v6 v8 v9 s0
noncomputable def bv12_joins (F259 : PM → Int32 → Int32 → Int32) (kv53 : PM → Int32 × PM) (kv119 : PM → Int32 → Int32 → Int32 → Int32 → Int32 → Int32 → Int32 → Int32 → Int32 × PM) (p : PM) (v1 : Int32) (v2 : Int32) : Int32 × PM :=
  if v2 = 0 then (
    let x6 : Int32 := (F259 p (v1 - (cn 4)) (cn 1))
    let x7 : Int32 := (F259 p ((v1 - (cn 4)) + (cn 1)) v2)
    if (F259 p v1 v2) < 0 then (
      kv53 p)
    else (
      if x6 < 0 then (
        kv53 p)
      else (
        if x7 < 0 then (
          kv53 p)
        else (
          let x8 : Int32 := (p.1 13 25 ((F259 p v1 v2)).toNatClampNeg)
          let x9 : Int32 := (p.1 13 25 (x6).toNatClampNeg)
          let x10 : Int32 := (p.1 13 25 (x7).toNatClampNeg)
          if v2 = 0 then (
            if (x9 - x10) < x8 then (
              kv119 p v2 (v1 - (cn 4)) (F259 p v1 v2) x6 x7 x9 x10 (cn 0))
            else (
              kv119 p v2 (v1 - (cn 4)) (F259 p v1 v2) x6 x7 x9 x10 (cn 1)))
          else (
            if x8 < (x9 - x10) then (
              kv119 p v2 (v1 - (cn 4)) (F259 p v1 v2) x6 x7 x9 x10 (cn 0))
            else (
              kv119 p v2 (v1 - (cn 4)) (F259 p v1 v2) x6 x7 x9 x10 (cn 1)))))))
  else (
    let x1 : Int32 := (F259 p (v1 - (cn 4)) (cn 0))
    let x2 : Int32 := (F259 p ((v1 - (cn 4)) + (cn 1)) v2)
    if (F259 p v1 v2) < 0 then (
      kv53 p)
    else (
      if x1 < 0 then (
        kv53 p)
      else (
        if x2 < 0 then (
          kv53 p)
        else (
          let x3 : Int32 := (p.1 13 25 ((F259 p v1 v2)).toNatClampNeg)
          let x4 : Int32 := (p.1 13 25 (x1).toNatClampNeg)
          let x5 : Int32 := (p.1 13 25 (x2).toNatClampNeg)
          if v2 = 0 then (
            if (x4 - x5) < x3 then (
              kv119 p v2 (v1 - (cn 4)) (F259 p v1 v2) x1 x2 x4 x5 (cn 0))
            else (
              kv119 p v2 (v1 - (cn 4)) (F259 p v1 v2) x1 x2 x4 x5 (cn 1)))
          else (
            if x3 < (x4 - x5) then (
              kv119 p v2 (v1 - (cn 4)) (F259 p v1 v2) x1 x2 x4 x5 (cn 0))
            else (
              kv119 p v2 (v1 - (cn 4)) (F259 p v1 v2) x1 x2 x4 x5 (cn 1)))))))
noncomputable def v12_joins (p : PM) (v1 : Int32) (v2 : Int32) : Int32 × PM := bv12_joins v12_firstOf v12_joins_53 v12_joins_119 p v1 v2
noncomputable def bg12_joins (F259 : PM → Int32 → Int32 → Int32) (G259 : PM → Int32 → Int32 → Prop) (kg53 : PM → Prop) (kg119 : PM → Int32 → Int32 → Int32 → Int32 → Int32 → Int32 → Int32 → Int32 → Prop) (p : PM) (v1 : Int32) (v2 : Int32) : Prop :=
  (G259 p v1 v2) ∧ (
  if v2 = 0 then (
    (G259 p (v1 - (cn 4)) (cn 1)) ∧ (
    let x6 : Int32 := (F259 p (v1 - (cn 4)) (cn 1))
    (G259 p ((v1 - (cn 4)) + (cn 1)) v2) ∧ (
    let x7 : Int32 := (F259 p ((v1 - (cn 4)) + (cn 1)) v2)
    if (F259 p v1 v2) < 0 then (
      kg53 p)
    else (
      if x6 < 0 then (
        kg53 p)
      else (
        if x7 < 0 then (
          kg53 p)
        else (
          (inb (F259 p v1 v2) 44) ∧ (
          let x8 : Int32 := (p.1 13 25 ((F259 p v1 v2)).toNatClampNeg)
          (inb x6 44) ∧ (
          let x9 : Int32 := (p.1 13 25 (x6).toNatClampNeg)
          (inb x7 44) ∧ (
          let x10 : Int32 := (p.1 13 25 (x7).toNatClampNeg)
          if v2 = 0 then (
            if (x9 - x10) < x8 then (
              kg119 p v2 (v1 - (cn 4)) (F259 p v1 v2) x6 x7 x9 x10 (cn 0))
            else (
              kg119 p v2 (v1 - (cn 4)) (F259 p v1 v2) x6 x7 x9 x10 (cn 1)))
          else (
            if x8 < (x9 - x10) then (
              kg119 p v2 (v1 - (cn 4)) (F259 p v1 v2) x6 x7 x9 x10 (cn 0))
            else (
              kg119 p v2 (v1 - (cn 4)) (F259 p v1 v2) x6 x7 x9 x10 (cn 1))))))))))))
  else (
    (G259 p (v1 - (cn 4)) (cn 0)) ∧ (
    let x1 : Int32 := (F259 p (v1 - (cn 4)) (cn 0))
    (G259 p ((v1 - (cn 4)) + (cn 1)) v2) ∧ (
    let x2 : Int32 := (F259 p ((v1 - (cn 4)) + (cn 1)) v2)
    if (F259 p v1 v2) < 0 then (
      kg53 p)
    else (
      if x1 < 0 then (
        kg53 p)
      else (
        if x2 < 0 then (
          kg53 p)
        else (
          (inb (F259 p v1 v2) 44) ∧ (
          let x3 : Int32 := (p.1 13 25 ((F259 p v1 v2)).toNatClampNeg)
          (inb x1 44) ∧ (
          let x4 : Int32 := (p.1 13 25 (x1).toNatClampNeg)
          (inb x2 44) ∧ (
          let x5 : Int32 := (p.1 13 25 (x2).toNatClampNeg)
          if v2 = 0 then (
            if (x4 - x5) < x3 then (
              kg119 p v2 (v1 - (cn 4)) (F259 p v1 v2) x1 x2 x4 x5 (cn 0))
            else (
              kg119 p v2 (v1 - (cn 4)) (F259 p v1 v2) x1 x2 x4 x5 (cn 1)))
          else (
            if x3 < (x4 - x5) then (
              kg119 p v2 (v1 - (cn 4)) (F259 p v1 v2) x1 x2 x4 x5 (cn 0))
            else (
              kg119 p v2 (v1 - (cn 4)) (F259 p v1 v2) x1 x2 x4 x5 (cn 1)))))))))))))
noncomputable def g12_joins (p : PM) (v1 : Int32) (v2 : Int32) : Prop := bg12_joins v12_firstOf g12_firstOf g12_joins_53 g12_joins_119 p v1 v2
def R262 : List Row := [(0, .iload_n 1, 1, 0, (0, 0, 0, 0, 0, 0)), (1, .iconst 4, 1, 0, (0, 0, 0, 0, 0, 4)), (2, .isub, 1, 0, (0, 0, 0, 0, 0, 0)), (3, .istore_n 3, 1, 0, (0, 0, 0, 0, 0, 0)), (4, .aload_n 0, 1, 0, (0, 0, 0, 0, 0, 0)), (5, .iload_n 1, 1, 0, (0, 0, 0, 0, 0, 0)), (6, .iload_n 2, 1, 0, (0, 0, 0, 0, 0, 0)), (7, .invokevirtual 337, 3, 0, (0, 3, 0, 0, 1, 0)), (10, .istore 4, 2, 0, (0, 0, 0, 0, 0, 0)), (12, .aload_n 0, 1, 0, (0, 0, 0, 0, 0, 0)), (13, .iload_n 3, 1, 0, (0, 0, 0, 0, 0, 0)), (14, .iload_n 2, 1, 0, (0, 0, 0, 0, 0, 0)), (15, .ifCond .ne 7, 3, 0, (0, 0, 0, 0, 0, 0)), (18, .iconst 1, 1, 0, (0, 0, 0, 0, 0, 1)), (19, .goto 4, 3, 0, (0, 0, 0, 0, 0, 0)), (22, .iconst 0, 1, 0, (0, 0, 0, 0, 0, 0)), (23, .invokevirtual 337, 3, 0, (0, 3, 0, 0, 1, 0)), (26, .istore 5, 2, 0, (0, 0, 0, 0, 0, 0)), (28, .aload_n 0, 1, 0, (0, 0, 0, 0, 0, 0)), (29, .iload_n 3, 1, 0, (0, 0, 0, 0, 0, 0)), (30, .iconst 1, 1, 0, (0, 0, 0, 0, 0, 1)), (31, .iadd, 1, 0, (0, 0, 0, 0, 0, 0)), (32, .iload_n 2, 1, 0, (0, 0, 0, 0, 0, 0)), (33, .invokevirtual 337, 3, 0, (0, 3, 0, 0, 1, 0)), (36, .istore 6, 2, 0, (0, 0, 0, 0, 0, 0)), (38, .iload 4, 2, 0, (0, 0, 0, 0, 0, 0)), (40, .ifCond .lt 13, 3, 0, (0, 0, 0, 0, 0, 0)), (43, .iload 5, 2, 0, (0, 0, 0, 0, 0, 0)), (45, .ifCond .lt 8, 3, 0, (0, 0, 0, 0, 0, 0)), (48, .iload 6, 2, 0, (0, 0, 0, 0, 0, 0)), (50, .ifCond .ge 5, 3, 0, (0, 0, 0, 0, 0, 0)), (53, .iconst 0, 1, 1, (0, 0, 0, 0, 0, 0)), (54, .ireturn, 1, 0, (1, 0, 0, 0, 0, 0)), (55, .aload_n 0, 1, 0, (0, 0, 0, 0, 0, 0)), (56, .getfield 102, 3, 0, (12, 33, 16, 2, 25, 0)), (59, .iload 4, 2, 0, (0, 0, 0, 0, 0, 0)), (61, .iaload, 1, 0, (13, 44, 0, 0, 0, 0)), (62, .istore 7, 2, 0, (0, 0, 0, 0, 0, 0)), (64, .aload_n 0, 1, 0, (0, 0, 0, 0, 0, 0)), (65, .getfield 102, 3, 0, (12, 33, 16, 2, 25, 0)), (68, .iload 5, 2, 0, (0, 0, 0, 0, 0, 0)), (70, .iaload, 1, 0, (13, 44, 0, 0, 0, 0)), (71, .istore 8, 2, 0, (0, 0, 0, 0, 0, 0)), (73, .aload_n 0, 1, 0, (0, 0, 0, 0, 0, 0)), (74, .getfield 102, 3, 0, (12, 33, 16, 2, 25, 0)), (77, .iload 6, 2, 0, (0, 0, 0, 0, 0, 0)), (79, .iaload, 1, 0, (13, 44, 0, 0, 0, 0)), (80, .istore 9, 2, 0, (0, 0, 0, 0, 0, 0)), (82, .iload_n 2, 1, 0, (0, 0, 0, 0, 0, 0)), (83, .ifCond .eq 21, 3, 0, (0, 0, 0, 0, 0, 0)), (86, .iload 7, 2, 0, (0, 0, 0, 0, 0, 0)), (88, .iload 8, 2, 0, (0, 0, 0, 0, 0, 0)), (90, .iload 9, 2, 0, (0, 0, 0, 0, 0, 0)), (92, .isub, 1, 0, (0, 0, 0, 0, 0, 0)), (93, .if_icmp .lt 7, 3, 0, (0, 0, 0, 0, 0, 0)), (96, .iconst 1, 1, 0, (0, 0, 0, 0, 0, 1)), (97, .goto 22, 3, 0, (0, 0, 0, 0, 0, 0)), (100, .iconst 0, 1, 0, (0, 0, 0, 0, 0, 0)), (101, .goto 18, 3, 0, (0, 0, 0, 0, 0, 0)), (104, .iload 7, 2, 0, (0, 0, 0, 0, 0, 0)), (106, .iload 8, 2, 0, (0, 0, 0, 0, 0, 0)), (108, .iload 9, 2, 0, (0, 0, 0, 0, 0, 0)), (110, .isub, 1, 0, (0, 0, 0, 0, 0, 0)), (111, .if_icmp .gt 7, 3, 0, (0, 0, 0, 0, 0, 0)), (114, .iconst 1, 1, 0, (0, 0, 0, 0, 0, 1)), (115, .goto 4, 3, 0, (0, 0, 0, 0, 0, 0)), (118, .iconst 0, 1, 0, (0, 0, 0, 0, 0, 0)), (119, .istore 10, 2, 2, (0, 0, 0, 0, 0, 0)), (121, .iload 10, 2, 0, (0, 0, 0, 0, 0, 0)), (123, .ifCond .eq 74, 3, 0, (0, 0, 0, 0, 0, 0)), (126, .iload_n 2, 1, 0, (0, 0, 0, 0, 0, 0)), (127, .ifCond .eq 36, 3, 0, (0, 0, 0, 0, 0, 0)), (130, .aload_n 0, 1, 0, (0, 0, 0, 0, 0, 0)), (131, .iload_n 3, 1, 0, (0, 0, 0, 0, 0, 0)), (132, .iload 4, 2, 0, (0, 0, 0, 0, 0, 0)), (134, .iload 5, 2, 0, (0, 0, 0, 0, 0, 0)), (136, .iload 8, 2, 0, (0, 0, 0, 0, 0, 0)), (138, .invokevirtual 340, 3, 0, (1, 5, 0, 0, 1, 0)), (141, .ifCond .eq 56, 3, 0, (0, 0, 0, 0, 0, 0)), (144, .aload_n 0, 1, 0, (0, 0, 0, 0, 0, 0)), (145, .iload_n 3, 1, 0, (0, 0, 0, 0, 0, 0)), (146, .iconst 1, 1, 0, (0, 0, 0, 0, 0, 1)), (147, .iadd, 1, 0, (0, 0, 0, 0, 0, 0)), (148, .iload 6, 2, 0, (0, 0, 0, 0, 0, 0)), (150, .iload 4, 2, 0, (0, 0, 0, 0, 0, 0)), (152, .iload 9, 2, 0, (0, 0, 0, 0, 0, 0)), (154, .invokevirtual 340, 3, 0, (1, 5, 0, 0, 1, 0)), (157, .ifCond .eq 40, 3, 0, (0, 0, 0, 0, 0, 0)), (160, .goto 33, 3, 0, (0, 0, 0, 0, 0, 0)), (163, .aload_n 0, 1, 0, (0, 0, 0, 0, 0, 0)), (164, .iload_n 3, 1, 0, (0, 0, 0, 0, 0, 0)), (165, .iload 5, 2, 0, (0, 0, 0, 0, 0, 0)), (167, .iload 4, 2, 0, (0, 0, 0, 0, 0, 0)), (169, .iload 8, 2, 0, (0, 0, 0, 0, 0, 0)), (171, .invokevirtual 340, 3, 0, (1, 5, 0, 0, 1, 0)), (174, .ifCond .eq 23, 3, 0, (0, 0, 0, 0, 0, 0)), (177, .aload_n 0, 1, 0, (0, 0, 0, 0, 0, 0)), (178, .iload_n 3, 1, 0, (0, 0, 0, 0, 0, 0)), (179, .iconst 1, 1, 0, (0, 0, 0, 0, 0, 1)), (180, .iadd, 1, 0, (0, 0, 0, 0, 0, 0)), (181, .iload 4, 2, 0, (0, 0, 0, 0, 0, 0)), (183, .iload 6, 2, 0, (0, 0, 0, 0, 0, 0)), (185, .iload 9, 2, 0, (0, 0, 0, 0, 0, 0)), (187, .invokevirtual 340, 3, 0, (1, 5, 0, 0, 1, 0)), (190, .ifCond .eq 7, 3, 0, (0, 0, 0, 0, 0, 0)), (193, .iconst 1, 1, 0, (0, 0, 0, 0, 0, 1)), (194, .goto 4, 3, 0, (0, 0, 0, 0, 0, 0)), (197, .iconst 0, 1, 3, (0, 0, 0, 0, 0, 0)), (198, .istore 10, 2, 0, (0, 0, 0, 0, 0, 0)), (200, .iload 10, 2, 0, (0, 0, 0, 0, 0, 0)), (202, .ifCond .ne 5, 3, 0, (0, 0, 0, 0, 0, 0)), (205, .iconst 0, 1, 0, (0, 0, 0, 0, 0, 0)), (206, .ireturn, 1, 0, (1, 0, 0, 0, 0, 0)), (207, .aload_n 0, 1, 0, (0, 0, 0, 0, 0, 0)), (208, .aload_n 0, 1, 0, (0, 0, 0, 0, 0, 0)), (209, .iload 4, 2, 0, (0, 0, 0, 0, 0, 0)), (211, .invokevirtual 258, 3, 0, (2, 2, 0, 0, 1, 0)), (214, .aload_n 0, 1, 0, (0, 0, 0, 0, 0, 0)), (215, .aload_n 0, 1, 0, (0, 0, 0, 0, 0, 0)), (216, .iload 5, 2, 0, (0, 0, 0, 0, 0, 0)), (218, .invokevirtual 258, 3, 0, (2, 2, 0, 0, 1, 0)), (221, .aload_n 0, 1, 0, (0, 0, 0, 0, 0, 0)), (222, .iload 6, 2, 0, (0, 0, 0, 0, 0, 0)), (224, .invokevirtual 258, 3, 0, (2, 2, 0, 0, 1, 0)), (227, .invokevirtual 261, 3, 0, (3, 3, 0, 0, 1, 0)), (230, .invokevirtual 261, 3, 0, (3, 3, 0, 0, 1, 0)), (233, .istore 11, 2, 0, (0, 0, 0, 0, 0, 0)), (235, .aload_n 0, 1, 0, (0, 0, 0, 0, 0, 0)), (236, .iload_n 3, 1, 0, (0, 0, 0, 0, 0, 0)), (237, .iload_n 2, 1, 0, (0, 0, 0, 0, 0, 0)), (238, .ifCond .eq 13, 3, 0, (0, 0, 0, 0, 0, 0)), (241, .aload_n 0, 1, 0, (0, 0, 0, 0, 0, 0)), (242, .getfield 66, 3, 0, (12, 21, 16, 2, 15, 0)), (245, .iload 4, 2, 0, (0, 0, 0, 0, 0, 0)), (247, .iaload, 1, 0, (13, 44, 0, 0, 0, 0)), (248, .goto 10, 3, 0, (0, 0, 0, 0, 0, 0)), (251, .aload_n 0, 1, 0, (0, 0, 0, 0, 0, 0)), (252, .getfield 66, 3, 0, (12, 21, 16, 2, 15, 0)), (255, .iload 5, 2, 0, (0, 0, 0, 0, 0, 0)), (257, .iaload, 1, 0, (13, 44, 0, 0, 0, 0)), (258, .iload_n 2, 1, 4, (0, 0, 0, 0, 0, 0)), (259, .ifCond .eq 13, 3, 0, (0, 0, 0, 0, 0, 0)), (262, .aload_n 0, 1, 0, (0, 0, 0, 0, 0, 0)), (263, .getfield 66, 3, 0, (12, 21, 16, 2, 15, 0)), (266, .iload 5, 2, 0, (0, 0, 0, 0, 0, 0)), (268, .iaload, 1, 0, (13, 44, 0, 0, 0, 0)), (269, .goto 10, 3, 0, (0, 0, 0, 0, 0, 0)), (272, .aload_n 0, 1, 0, (0, 0, 0, 0, 0, 0)), (273, .getfield 66, 3, 0, (12, 21, 16, 2, 15, 0)), (276, .iload 4, 2, 0, (0, 0, 0, 0, 0, 0)), (278, .iaload, 1, 0, (13, 44, 0, 0, 0, 0)), (279, .iload 8, 2, 0, (0, 0, 0, 0, 0, 0)), (281, .iload 11, 2, 0, (0, 0, 0, 0, 0, 0)), (283, .invokevirtual 269, 3, 0, (4, 6, 0, 0, 1, 0)), (286, .aload_n 0, 1, 0, (0, 0, 0, 0, 0, 0)), (287, .iload_n 3, 1, 0, (0, 0, 0, 0, 0, 0)), (288, .iconst 1, 1, 0, (0, 0, 0, 0, 0, 1)), (289, .iadd, 1, 0, (0, 0, 0, 0, 0, 0)), (290, .iload_n 2, 1, 0, (0, 0, 0, 0, 0, 0)), (291, .ifCond .eq 13, 3, 0, (0, 0, 0, 0, 0, 0)), (294, .aload_n 0, 1, 0, (0, 0, 0, 0, 0, 0)), (295, .getfield 66, 3, 0, (12, 21, 16, 2, 15, 0)), (298, .iload 6, 2, 0, (0, 0, 0, 0, 0, 0)), (300, .iaload, 1, 0, (13, 44, 0, 0, 0, 0)), (301, .goto 10, 3, 0, (0, 0, 0, 0, 0, 0)), (304, .aload_n 0, 1, 0, (0, 0, 0, 0, 0, 0)), (305, .getfield 66, 3, 0, (12, 21, 16, 2, 15, 0)), (308, .iload 4, 2, 0, (0, 0, 0, 0, 0, 0)), (310, .iaload, 1, 0, (13, 44, 0, 0, 0, 0)), (311, .iload_n 2, 1, 0, (0, 0, 0, 0, 0, 0)), (312, .ifCond .eq 13, 3, 0, (0, 0, 0, 0, 0, 0)), (315, .aload_n 0, 1, 0, (0, 0, 0, 0, 0, 0)), (316, .getfield 66, 3, 0, (12, 21, 16, 2, 15, 0)), (319, .iload 4, 2, 0, (0, 0, 0, 0, 0, 0)), (321, .iaload, 1, 0, (13, 44, 0, 0, 0, 0)), (322, .goto 10, 3, 0, (0, 0, 0, 0, 0, 0)), (325, .aload_n 0, 1, 0, (0, 0, 0, 0, 0, 0)), (326, .getfield 66, 3, 0, (12, 21, 16, 2, 15, 0)), (329, .iload 6, 2, 0, (0, 0, 0, 0, 0, 0)), (331, .iaload, 1, 0, (13, 44, 0, 0, 0, 0)), (332, .iload 9, 2, 0, (0, 0, 0, 0, 0, 0)), (334, .iload 11, 2, 0, (0, 0, 0, 0, 0, 0)), (336, .invokevirtual 269, 3, 0, (4, 6, 0, 0, 1, 0)), (339, .aload_n 0, 1, 0, (0, 0, 0, 0, 0, 0)), (340, .iload 4, 2, 0, (0, 0, 0, 0, 0, 0)), (342, .iload 11, 2, 0, (0, 0, 0, 0, 0, 0)), (344, .invokevirtual 344, 3, 0, (5, 3, 0, 0, 1, 0)), (347, .aload_n 0, 1, 0, (0, 0, 0, 0, 0, 0)), (348, .iload 5, 2, 0, (0, 0, 0, 0, 0, 0)), (350, .iload 11, 2, 0, (0, 0, 0, 0, 0, 0)), (352, .invokevirtual 344, 3, 0, (5, 3, 0, 0, 1, 0)), (355, .aload_n 0, 1, 0, (0, 0, 0, 0, 0, 0)), (356, .iload 6, 2, 0, (0, 0, 0, 0, 0, 0)), (358, .iload 11, 2, 0, (0, 0, 0, 0, 0, 0)), (360, .invokevirtual 344, 3, 0, (5, 3, 0, 0, 1, 0)), (363, .aload_n 0, 1, 0, (0, 0, 0, 0, 0, 0)), (364, .iload 4, 2, 0, (0, 0, 0, 0, 0, 0)), (366, .invokevirtual 277, 3, 0, (6, 2, 0, 0, 1, 0)), (369, .aload_n 0, 1, 0, (0, 0, 0, 0, 0, 0)), (370, .iload 5, 2, 0, (0, 0, 0, 0, 0, 0)), (372, .invokevirtual 277, 3, 0, (6, 2, 0, 0, 1, 0)), (375, .aload_n 0, 1, 0, (0, 0, 0, 0, 0, 0)), (376, .iload 6, 2, 0, (0, 0, 0, 0, 0, 0)), (378, .invokevirtual 277, 3, 0, (6, 2, 0, 0, 1, 0)), (381, .iconst 1, 1, 0, (0, 0, 0, 0, 0, 1)), (382, .ireturn, 1, 0, (1, 0, 0, 0, 0, 0))]
set_option maxRecDepth 100000 in
theorem rk262 : R262.all (rok 2 262 1 [(259, [15, 0, 0]), (260, [15, 0, 0, 0, 0]), (226, [15, 0]), (244, [15, 0, 0]), (233, [15, 0, 0, 0, 0, 0]), (261, [15, 0, 0]), (237, [15, 0])]) = true := by decide +kernel
set_option maxRecDepth 100000 in
theorem tab262 {F259 : PM → Int32 → Int32 → Int32} {G259 : PM → Int32 → Int32 → Prop} {F260 : PM → Int32 → Int32 → Int32 → Int32 → Int32} {G260 : PM → Int32 → Int32 → Int32 → Int32 → Prop} {F226 : PM → Int32 → Int32} {G226 : PM → Int32 → Prop} {F244 : PM → Int32 → Int32 → Int32} {G244 : PM → Int32 → Int32 → Prop} {F233 : PM → Int32 → Int32 → Int32 → Int32 → Int32 → PM} {G233 : PM → Int32 → Int32 → Int32 → Int32 → Int32 → Prop} {F261 : PM → Int32 → Int32 → PM} {G261 : PM → Int32 → Int32 → Prop} {F237 : PM → Int32 → PM} {G237 : PM → Int32 → Prop} : TabOK 2 262 1 [CC259 F259 G259, CC260 F260 G260, CC226 F226 G226, CC244 F244 G244, CC233 F233 G233, CC261 F261 G261, CC237 F237 G237] R262 := tab_ok (K := K262) rfl rfl (fun h => d262 h) rk262 (by decide +kernel)
set_option maxRecDepth 100000 in
theorem pc262 : cutpc [53, 119, 197, 258] R262 = true := by decide +kernel
set_option maxRecDepth 100000 in
theorem r12_joins_53 (F259 : PM → Int32 → Int32 → Int32) (G259 : PM → Int32 → Int32 → Prop) (o259 : CalOK 2 (CC259 F259 G259)) (F260 : PM → Int32 → Int32 → Int32 → Int32 → Int32) (G260 : PM → Int32 → Int32 → Int32 → Int32 → Prop) (o260 : CalOK 2 (CC260 F260 G260)) (F226 : PM → Int32 → Int32) (G226 : PM → Int32 → Prop) (o226 : CalOK 2 (CC226 F226 G226)) (F244 : PM → Int32 → Int32 → Int32) (G244 : PM → Int32 → Int32 → Prop) (o244 : CalOK 2 (CC244 F244 G244)) (F233 : PM → Int32 → Int32 → Int32 → Int32 → Int32 → PM) (G233 : PM → Int32 → Int32 → Int32 → Int32 → Int32 → Prop) (o233 : CalOK 2 (CC233 F233 G233)) (F261 : PM → Int32 → Int32 → PM) (G261 : PM → Int32 → Int32 → Prop) (o261 : CalOK 2 (CC261 F261 G261)) (F237 : PM → Int32 → PM) (G237 : PM → Int32 → Prop) (o237 : CalOK 2 (CC237 F237 G237)) : ∀ (p : PM) (d0 d1 d2 d3 d4 d5 d6 d7 d8 d9 d10 d11 : ZV), Gr 2 p → bg12_joins_53 p → ZJ 2 262 53 [d0, d1, d2, d3, d4, d5, d6, d7, d8, d9, d10, d11] [] p (hwI (bv12_joins_53 p)) := by
  intro p  d0 d1 d2 d3 d4 d5 d6 d7 d8 d9 d10 d11 hg H
  exact rwI (n := 3000) (q := 53) (la := [d0, d1, d2, d3, d4, d5, d6, d7, d8, d9, d10, d11]) (sa := []) (ks := [fun _ _ s => (0, s), fun _ _ s => (0, s), fun _ _ s => (0, s), fun _ _ s => (0, s)]) (gs := [fun _ _ _ => False, fun _ _ _ => False, fun _ _ _ => False, fun _ _ _ => False]) (fcons o259 (fcons o260 (fcons o226 (fcons o244 (fcons o233 (fcons o261 (fcons o237 (fnil)))))))) tab262 pc262 ⟨fun _ _ _ _ H => H.elim, fun _ _ _ _ H => H.elim, fun _ _ _ _ H => H.elim, fun _ _ _ _ H => H.elim, trivial⟩ hg H
theorem t12_joins_53 : ∀ (p : PM) (d0 d1 d2 d3 d4 d5 d6 d7 d8 d9 d10 d11 : ZV), Gr 2 p → g12_joins_53 p → ZJ 2 262 53 [d0, d1, d2, d3, d4, d5, d6, d7, d8, d9, d10, d11] [] p (hwI (v12_joins_53 p)) := r12_joins_53 v12_firstOf g12_firstOf ok259 v12_canDeal g12_canDeal ok260 v12_showsNow g12_showsNow ok226 v12_least g12_least ok244 v12_deals g12_deals ok233 v12_falls1 g12_falls1 ok261 v12_guards g12_guards ok237
set_option maxRecDepth 100000 in
theorem r12_joins_197 (F259 : PM → Int32 → Int32 → Int32) (G259 : PM → Int32 → Int32 → Prop) (o259 : CalOK 2 (CC259 F259 G259)) (F260 : PM → Int32 → Int32 → Int32 → Int32 → Int32) (G260 : PM → Int32 → Int32 → Int32 → Int32 → Prop) (o260 : CalOK 2 (CC260 F260 G260)) (F226 : PM → Int32 → Int32) (G226 : PM → Int32 → Prop) (o226 : CalOK 2 (CC226 F226 G226)) (F244 : PM → Int32 → Int32 → Int32) (G244 : PM → Int32 → Int32 → Prop) (o244 : CalOK 2 (CC244 F244 G244)) (F233 : PM → Int32 → Int32 → Int32 → Int32 → Int32 → PM) (G233 : PM → Int32 → Int32 → Int32 → Int32 → Int32 → Prop) (o233 : CalOK 2 (CC233 F233 G233)) (F261 : PM → Int32 → Int32 → PM) (G261 : PM → Int32 → Int32 → Prop) (o261 : CalOK 2 (CC261 F261 G261)) (F237 : PM → Int32 → PM) (G237 : PM → Int32 → Prop) (o237 : CalOK 2 (CC237 F237 G237)) : ∀ (p : PM) (v2 : Int32) (v3 : Int32) (v4 : Int32) (v5 : Int32) (v6 : Int32) (v8 : Int32) (v9 : Int32) (d1 d7 d10 d11 : ZV), Gr 2 p → bg12_joins_197 p v2 v3 v4 v5 v6 v8 v9 → ZJ 2 262 197 [zR 12 1, d1, zI v2, zI v3, zI v4, zI v5, zI v6, d7, zI v8, zI v9, d10, d11] [] p (hwI (bv12_joins_197 p v2 v3 v4 v5 v6 v8 v9)) := by
  intro p v2 v3 v4 v5 v6 v8 v9 d1 d7 d10 d11 hg H
  exact rwI (n := 3000) (q := 197) (la := [zR 12 1, d1, zI v2, zI v3, zI v4, zI v5, zI v6, d7, zI v8, zI v9, d10, d11]) (sa := []) (ks := [fun _ _ s => (0, s), fun _ _ s => (0, s), fun _ _ s => (0, s), fun _ _ s => (0, s)]) (gs := [fun _ _ _ => False, fun _ _ _ => False, fun _ _ _ => False, fun _ _ _ => False]) (fcons o259 (fcons o260 (fcons o226 (fcons o244 (fcons o233 (fcons o261 (fcons o237 (fnil)))))))) tab262 pc262 ⟨fun _ _ _ _ H => H.elim, fun _ _ _ _ H => H.elim, fun _ _ _ _ H => H.elim, fun _ _ _ _ H => H.elim, trivial⟩ hg H
theorem t12_joins_197 : ∀ (p : PM) (v2 : Int32) (v3 : Int32) (v4 : Int32) (v5 : Int32) (v6 : Int32) (v8 : Int32) (v9 : Int32) (d1 d7 d10 d11 : ZV), Gr 2 p → g12_joins_197 p v2 v3 v4 v5 v6 v8 v9 → ZJ 2 262 197 [zR 12 1, d1, zI v2, zI v3, zI v4, zI v5, zI v6, d7, zI v8, zI v9, d10, d11] [] p (hwI (v12_joins_197 p v2 v3 v4 v5 v6 v8 v9)) := r12_joins_197 v12_firstOf g12_firstOf ok259 v12_canDeal g12_canDeal ok260 v12_showsNow g12_showsNow ok226 v12_least g12_least ok244 v12_deals g12_deals ok233 v12_falls1 g12_falls1 ok261 v12_guards g12_guards ok237
set_option maxRecDepth 100000 in
theorem r12_joins_258 (F259 : PM → Int32 → Int32 → Int32) (G259 : PM → Int32 → Int32 → Prop) (o259 : CalOK 2 (CC259 F259 G259)) (F260 : PM → Int32 → Int32 → Int32 → Int32 → Int32) (G260 : PM → Int32 → Int32 → Int32 → Int32 → Prop) (o260 : CalOK 2 (CC260 F260 G260)) (F226 : PM → Int32 → Int32) (G226 : PM → Int32 → Prop) (o226 : CalOK 2 (CC226 F226 G226)) (F244 : PM → Int32 → Int32 → Int32) (G244 : PM → Int32 → Int32 → Prop) (o244 : CalOK 2 (CC244 F244 G244)) (F233 : PM → Int32 → Int32 → Int32 → Int32 → Int32 → PM) (G233 : PM → Int32 → Int32 → Int32 → Int32 → Int32 → Prop) (o233 : CalOK 2 (CC233 F233 G233)) (F261 : PM → Int32 → Int32 → PM) (G261 : PM → Int32 → Int32 → Prop) (o261 : CalOK 2 (CC261 F261 G261)) (F237 : PM → Int32 → PM) (G237 : PM → Int32 → Prop) (o237 : CalOK 2 (CC237 F237 G237)) : ∀ (p : PM) (v2 : Int32) (v3 : Int32) (v4 : Int32) (v5 : Int32) (v6 : Int32) (v8 : Int32) (v9 : Int32) (v11 : Int32) (s0 : Int32) (s1 : Int32) (d1 d7 d10 : ZV), Gr 2 p → bg12_joins_258 F233 G233 F237 G237 F261 G261 p v2 v3 v4 v5 v6 v8 v9 v11 s0 s1 → ZJ 2 262 258 [zR 12 1, d1, zI v2, zI v3, zI v4, zI v5, zI v6, d7, zI v8, zI v9, d10, zI v11] [zI s0, zI s1, zR 12 1] p (hwI (bv12_joins_258 F233 F237 F261 p v2 v3 v4 v5 v6 v8 v9 v11 s0 s1)) := by
  intro p v2 v3 v4 v5 v6 v8 v9 v11 s0 s1 d1 d7 d10 hg H
  exact rwI (n := 3000) (q := 258) (la := [zR 12 1, d1, zI v2, zI v3, zI v4, zI v5, zI v6, d7, zI v8, zI v9, d10, zI v11]) (sa := [zI s0, zI s1, zR 12 1]) (ks := [fun _ _ s => (0, s), fun _ _ s => (0, s), fun _ _ s => (0, s), fun _ _ s => (0, s)]) (gs := [fun _ _ _ => False, fun _ _ _ => False, fun _ _ _ => False, fun _ _ _ => False]) (fcons o259 (fcons o260 (fcons o226 (fcons o244 (fcons o233 (fcons o261 (fcons o237 (fnil)))))))) tab262 pc262 ⟨fun _ _ _ _ H => H.elim, fun _ _ _ _ H => H.elim, fun _ _ _ _ H => H.elim, fun _ _ _ _ H => H.elim, trivial⟩ hg H
theorem t12_joins_258 : ∀ (p : PM) (v2 : Int32) (v3 : Int32) (v4 : Int32) (v5 : Int32) (v6 : Int32) (v8 : Int32) (v9 : Int32) (v11 : Int32) (s0 : Int32) (s1 : Int32) (d1 d7 d10 : ZV), Gr 2 p → g12_joins_258 p v2 v3 v4 v5 v6 v8 v9 v11 s0 s1 → ZJ 2 262 258 [zR 12 1, d1, zI v2, zI v3, zI v4, zI v5, zI v6, d7, zI v8, zI v9, d10, zI v11] [zI s0, zI s1, zR 12 1] p (hwI (v12_joins_258 p v2 v3 v4 v5 v6 v8 v9 v11 s0 s1)) := r12_joins_258 v12_firstOf g12_firstOf ok259 v12_canDeal g12_canDeal ok260 v12_showsNow g12_showsNow ok226 v12_least g12_least ok244 v12_deals g12_deals ok233 v12_falls1 g12_falls1 ok261 v12_guards g12_guards ok237
set_option maxRecDepth 100000 in
theorem r12_joins_119 (F259 : PM → Int32 → Int32 → Int32) (G259 : PM → Int32 → Int32 → Prop) (o259 : CalOK 2 (CC259 F259 G259)) (F260 : PM → Int32 → Int32 → Int32 → Int32 → Int32) (G260 : PM → Int32 → Int32 → Int32 → Int32 → Prop) (o260 : CalOK 2 (CC260 F260 G260)) (F226 : PM → Int32 → Int32) (G226 : PM → Int32 → Prop) (o226 : CalOK 2 (CC226 F226 G226)) (F244 : PM → Int32 → Int32 → Int32) (G244 : PM → Int32 → Int32 → Prop) (o244 : CalOK 2 (CC244 F244 G244)) (F233 : PM → Int32 → Int32 → Int32 → Int32 → Int32 → PM) (G233 : PM → Int32 → Int32 → Int32 → Int32 → Int32 → Prop) (o233 : CalOK 2 (CC233 F233 G233)) (F261 : PM → Int32 → Int32 → PM) (G261 : PM → Int32 → Int32 → Prop) (o261 : CalOK 2 (CC261 F261 G261)) (F237 : PM → Int32 → PM) (G237 : PM → Int32 → Prop) (o237 : CalOK 2 (CC237 F237 G237)) (kv197 : PM → Int32 → Int32 → Int32 → Int32 → Int32 → Int32 → Int32 → Int32 × PM) (kg197 : PM → Int32 → Int32 → Int32 → Int32 → Int32 → Int32 → Int32 → Prop) (hk197 : ∀ (p : PM) (v2 : Int32) (v3 : Int32) (v4 : Int32) (v5 : Int32) (v6 : Int32) (v8 : Int32) (v9 : Int32) (d1 d7 d10 d11 : ZV), Gr 2 p → kg197 p v2 v3 v4 v5 v6 v8 v9 → ZJ 2 262 197 [zR 12 1, d1, zI v2, zI v3, zI v4, zI v5, zI v6, d7, zI v8, zI v9, d10, d11] [] p (hwI (kv197 p v2 v3 v4 v5 v6 v8 v9))) (kv258 : PM → Int32 → Int32 → Int32 → Int32 → Int32 → Int32 → Int32 → Int32 → Int32 → Int32 → Int32 × PM) (kg258 : PM → Int32 → Int32 → Int32 → Int32 → Int32 → Int32 → Int32 → Int32 → Int32 → Int32 → Prop) (hk258 : ∀ (p : PM) (v2 : Int32) (v3 : Int32) (v4 : Int32) (v5 : Int32) (v6 : Int32) (v8 : Int32) (v9 : Int32) (v11 : Int32) (s0 : Int32) (s1 : Int32) (d1 d7 d10 : ZV), Gr 2 p → kg258 p v2 v3 v4 v5 v6 v8 v9 v11 s0 s1 → ZJ 2 262 258 [zR 12 1, d1, zI v2, zI v3, zI v4, zI v5, zI v6, d7, zI v8, zI v9, d10, zI v11] [zI s0, zI s1, zR 12 1] p (hwI (kv258 p v2 v3 v4 v5 v6 v8 v9 v11 s0 s1))) : ∀ (p : PM) (v2 : Int32) (v3 : Int32) (v4 : Int32) (v5 : Int32) (v6 : Int32) (v8 : Int32) (v9 : Int32) (s0 : Int32) (d1 d7 d10 d11 : ZV), Gr 2 p → bg12_joins_119 F226 G226 F244 G244 F260 G260 kg197 kg258 p v2 v3 v4 v5 v6 v8 v9 s0 → ZJ 2 262 119 [zR 12 1, d1, zI v2, zI v3, zI v4, zI v5, zI v6, d7, zI v8, zI v9, d10, d11] [zI s0] p (hwI (bv12_joins_119 F226 F244 F260 kv197 kv258 p v2 v3 v4 v5 v6 v8 v9 s0)) := by
  intro p v2 v3 v4 v5 v6 v8 v9 s0 d1 d7 d10 d11 hg H
  exact rwI (n := 3000) (q := 119) (la := [zR 12 1, d1, zI v2, zI v3, zI v4, zI v5, zI v6, d7, zI v8, zI v9, d10, d11]) (sa := [zI s0]) (ks := [fun _ _ s => (0, s), fun _ _ s => (0, s), fun la sa s => kv197 s (ai la 2) (ai la 3) (ai la 4) (ai la 5) (ai la 6) (ai la 8) (ai la 9), fun la sa s => kv258 s (ai la 2) (ai la 3) (ai la 4) (ai la 5) (ai la 6) (ai la 8) (ai la 9) (ai la 11) (ai sa 0) (ai sa 1)]) (gs := [fun _ _ _ => False, fun _ _ _ => False, fun la sa s => zsw (tc2 la [(112, 1), (2, 0), (0, 0), (0, 0), (0, 0), (0, 0), (0, 0), (2, 0), (0, 0), (0, 0), (2, 0), (2, 0)] && tc2 sa []) False (kg197 s (ai la 2) (ai la 3) (ai la 4) (ai la 5) (ai la 6) (ai la 8) (ai la 9)), fun la sa s => zsw (tc2 la [(112, 1), (2, 0), (0, 0), (0, 0), (0, 0), (0, 0), (0, 0), (2, 0), (0, 0), (0, 0), (2, 0), (0, 0)] && tc2 sa [(0, 0), (0, 0), (112, 1)]) False (kg258 s (ai la 2) (ai la 3) (ai la 4) (ai la 5) (ai la 6) (ai la 8) (ai la 9) (ai la 11) (ai sa 0) (ai sa 1))]) (fcons o259 (fcons o260 (fcons o226 (fcons o244 (fcons o233 (fcons o261 (fcons o237 (fnil)))))))) tab262 pc262 ⟨fun _ _ _ _ H => H.elim, fun _ _ _ _ H => H.elim, fun la sa s hg H => zcut H fun H => hk197 s (ai la 2) (ai la 3) (ai la 4) (ai la 5) (ai la 6) (ai la 8) (ai la 9) (zld la 1) (zld la 7) (zld la 10) (zld la 11) hg H, fun la sa s hg H => zcut H fun H => hk258 s (ai la 2) (ai la 3) (ai la 4) (ai la 5) (ai la 6) (ai la 8) (ai la 9) (ai la 11) (ai sa 0) (ai sa 1) (zld la 1) (zld la 7) (zld la 10) hg H, trivial⟩ hg H
theorem t12_joins_119 : ∀ (p : PM) (v2 : Int32) (v3 : Int32) (v4 : Int32) (v5 : Int32) (v6 : Int32) (v8 : Int32) (v9 : Int32) (s0 : Int32) (d1 d7 d10 d11 : ZV), Gr 2 p → g12_joins_119 p v2 v3 v4 v5 v6 v8 v9 s0 → ZJ 2 262 119 [zR 12 1, d1, zI v2, zI v3, zI v4, zI v5, zI v6, d7, zI v8, zI v9, d10, d11] [zI s0] p (hwI (v12_joins_119 p v2 v3 v4 v5 v6 v8 v9 s0)) := r12_joins_119 v12_firstOf g12_firstOf ok259 v12_canDeal g12_canDeal ok260 v12_showsNow g12_showsNow ok226 v12_least g12_least ok244 v12_deals g12_deals ok233 v12_falls1 g12_falls1 ok261 v12_guards g12_guards ok237 (v12_joins_197) (g12_joins_197) (t12_joins_197) (v12_joins_258) (g12_joins_258) (t12_joins_258)
set_option maxRecDepth 100000 in
theorem r12_joins (F259 : PM → Int32 → Int32 → Int32) (G259 : PM → Int32 → Int32 → Prop) (o259 : CalOK 2 (CC259 F259 G259)) (F260 : PM → Int32 → Int32 → Int32 → Int32 → Int32) (G260 : PM → Int32 → Int32 → Int32 → Int32 → Prop) (o260 : CalOK 2 (CC260 F260 G260)) (F226 : PM → Int32 → Int32) (G226 : PM → Int32 → Prop) (o226 : CalOK 2 (CC226 F226 G226)) (F244 : PM → Int32 → Int32 → Int32) (G244 : PM → Int32 → Int32 → Prop) (o244 : CalOK 2 (CC244 F244 G244)) (F233 : PM → Int32 → Int32 → Int32 → Int32 → Int32 → PM) (G233 : PM → Int32 → Int32 → Int32 → Int32 → Int32 → Prop) (o233 : CalOK 2 (CC233 F233 G233)) (F261 : PM → Int32 → Int32 → PM) (G261 : PM → Int32 → Int32 → Prop) (o261 : CalOK 2 (CC261 F261 G261)) (F237 : PM → Int32 → PM) (G237 : PM → Int32 → Prop) (o237 : CalOK 2 (CC237 F237 G237)) (kv53 : PM → Int32 × PM) (kg53 : PM → Prop) (hk53 : ∀ (p : PM) (d0 d1 d2 d3 d4 d5 d6 d7 d8 d9 d10 d11 : ZV), Gr 2 p → kg53 p  → ZJ 2 262 53 [d0, d1, d2, d3, d4, d5, d6, d7, d8, d9, d10, d11] [] p (hwI (kv53 p ))) (kv119 : PM → Int32 → Int32 → Int32 → Int32 → Int32 → Int32 → Int32 → Int32 → Int32 × PM) (kg119 : PM → Int32 → Int32 → Int32 → Int32 → Int32 → Int32 → Int32 → Int32 → Prop) (hk119 : ∀ (p : PM) (v2 : Int32) (v3 : Int32) (v4 : Int32) (v5 : Int32) (v6 : Int32) (v8 : Int32) (v9 : Int32) (s0 : Int32) (d1 d7 d10 d11 : ZV), Gr 2 p → kg119 p v2 v3 v4 v5 v6 v8 v9 s0 → ZJ 2 262 119 [zR 12 1, d1, zI v2, zI v3, zI v4, zI v5, zI v6, d7, zI v8, zI v9, d10, d11] [zI s0] p (hwI (kv119 p v2 v3 v4 v5 v6 v8 v9 s0))) : ∀ (p : PM) (v1 : Int32) (v2 : Int32), Gr 2 p → bg12_joins F259 G259 kg53 kg119 p v1 v2 → ZJ 2 262 0 [zR 12 1, zI v1, zI v2, zJ, zJ, zJ, zJ, zJ, zJ, zJ, zJ, zJ] [] p (hwI (bv12_joins F259 kv53 kv119 p v1 v2)) := by
  intro p v1 v2  hg H
  exact rwI (n := 3000) (q := 0) (la := [zR 12 1, zI v1, zI v2, zJ, zJ, zJ, zJ, zJ, zJ, zJ, zJ, zJ]) (sa := []) (ks := [fun la sa s => kv53 s, fun la sa s => kv119 s (ai la 2) (ai la 3) (ai la 4) (ai la 5) (ai la 6) (ai la 8) (ai la 9) (ai sa 0), fun _ _ s => (0, s), fun _ _ s => (0, s)]) (gs := [fun la sa s => zsw (tc2 la [(2, 0), (2, 0), (2, 0), (2, 0), (2, 0), (2, 0), (2, 0), (2, 0), (2, 0), (2, 0), (2, 0), (2, 0)] && tc2 sa []) False (kg53 s ), fun la sa s => zsw (tc2 la [(112, 1), (2, 0), (0, 0), (0, 0), (0, 0), (0, 0), (0, 0), (2, 0), (0, 0), (0, 0), (2, 0), (2, 0)] && tc2 sa [(0, 0)]) False (kg119 s (ai la 2) (ai la 3) (ai la 4) (ai la 5) (ai la 6) (ai la 8) (ai la 9) (ai sa 0)), fun _ _ _ => False, fun _ _ _ => False]) (fcons o259 (fcons o260 (fcons o226 (fcons o244 (fcons o233 (fcons o261 (fcons o237 (fnil)))))))) tab262 pc262 ⟨fun la sa s hg H => zcut H fun H => hk53 s (zld la 0) (zld la 1) (zld la 2) (zld la 3) (zld la 4) (zld la 5) (zld la 6) (zld la 7) (zld la 8) (zld la 9) (zld la 10) (zld la 11) hg H, fun la sa s hg H => zcut H fun H => hk119 s (ai la 2) (ai la 3) (ai la 4) (ai la 5) (ai la 6) (ai la 8) (ai la 9) (ai sa 0) (zld la 1) (zld la 7) (zld la 10) (zld la 11) hg H, fun _ _ _ _ H => H.elim, fun _ _ _ _ H => H.elim, trivial⟩ hg H
theorem t12_joins : ∀ (p : PM) (v1 : Int32) (v2 : Int32), Gr 2 p → g12_joins p v1 v2 → ZJ 2 262 0 [zR 12 1, zI v1, zI v2, zJ, zJ, zJ, zJ, zJ, zJ, zJ, zJ, zJ] [] p (hwI (v12_joins p v1 v2)) := r12_joins v12_firstOf g12_firstOf ok259 v12_canDeal g12_canDeal ok260 v12_showsNow g12_showsNow ok226 v12_least g12_least ok244 v12_deals g12_deals ok233 v12_falls1 g12_falls1 ok261 v12_guards g12_guards ok237 (v12_joins_53) (g12_joins_53) (t12_joins_53) (v12_joins_119) (g12_joins_119) (t12_joins_119)
def CC262 (F : PM → Int32 → Int32 → Int32 × PM) (G : PM → Int32 → Int32 → Prop) : Cal := (262, [15, 0, 0], 1, false, fun as p => (zI (F p (ai as 1) (ai as 2)).1, (F p (ai as 1) (ai as 2)).2), fun as p => zsw (tc2 as [(112, 1), (0, 0), (0, 0)]) False (G p (ai as 1) (ai as 2)))
set_option maxRecDepth 100000 in
theorem okr262 (F : PM → Int32 → Int32 → Int32 × PM) (G : PM → Int32 → Int32 → Prop) (h : ∀ (p : PM) (v1 : Int32) (v2 : Int32), Gr 2 p → G p v1 v2 → ZJ 2 262 0 [zR 12 1, zI v1, zI v2, zJ, zJ, zJ, zJ, zJ, zJ, zJ, zJ, zJ] [] p (hwI (F p v1 v2))) : CalOK 2 (CC262 F G) := cal_ok (m := 12) (by unfold mL; rw [mX_262]) (fun as p hg H => h p (ai as 1) (ai as 2) hg H)
theorem ok262 : CalOK 2 (CC262 v12_joins g12_joins) := okr262 v12_joins g12_joins t12_joins
noncomputable def bv12_chains_64 (p : PM) : Int32 × PM :=
  ((cn 0), p)
noncomputable def v12_chains_64 (p : PM) : Int32 × PM := bv12_chains_64 p
noncomputable def bg12_chains_64 (p : PM) : Prop :=
  True
noncomputable def g12_chains_64 (p : PM) : Prop := bg12_chains_64 p
noncomputable def bv12_chains_248 (p : PM) (v1 : Int32) (v2 : Int32) (v3 : Int32) (v4 : Int32) (v5 : Int32) (v6 : Int32) (v7 : Int32) (v8 : Int32) : Int32 × PM :=
  ((cn 0), p)
noncomputable def v12_chains_248 (p : PM) (v1 : Int32) (v2 : Int32) (v3 : Int32) (v4 : Int32) (v5 : Int32) (v6 : Int32) (v7 : Int32) (v8 : Int32) : Int32 × PM := bv12_chains_248 p v1 v2 v3 v4 v5 v6 v7 v8
noncomputable def bg12_chains_248 (p : PM) (v1 : Int32) (v2 : Int32) (v3 : Int32) (v4 : Int32) (v5 : Int32) (v6 : Int32) (v7 : Int32) (v8 : Int32) : Prop :=
  True
noncomputable def g12_chains_248 (p : PM) (v1 : Int32) (v2 : Int32) (v3 : Int32) (v4 : Int32) (v5 : Int32) (v6 : Int32) (v7 : Int32) (v8 : Int32) : Prop := bg12_chains_248 p v1 v2 v3 v4 v5 v6 v7 v8
noncomputable def bv12_chains_364 (F233 : PM → Int32 → Int32 → Int32 → Int32 → Int32 → PM) (F237 : PM → Int32 → PM) (F261 : PM → Int32 → Int32 → PM) (p : PM) (v1 : Int32) (v2 : Int32) (v3 : Int32) (v4 : Int32) (v5 : Int32) (v7 : Int32) (v8 : Int32) (v10 : Int32) (s0 : Int32) : Int32 × PM :=
  if v1 = 0 then (
    let p1 : PM := F233 p (cn 1) s0 (p.1 13 15 (v3).toNatClampNeg) v8 v10
    if v1 = 0 then (
      if v1 = 0 then (
        let p2 : PM := F233 p1 (cn 2) (p1.1 13 15 (v3).toNatClampNeg) (p1.1 13 15 (v5).toNatClampNeg) v7 v10
        let p3 : PM := F261 p2 v2 v10
        let p4 : PM := F261 p3 v3 v10
        let p5 : PM := F261 p4 v4 v10
        let p6 : PM := F261 p5 v5 v10
        let p7 : PM := F237 p6 v2
        let p8 : PM := F237 p7 v3
        let p9 : PM := F237 p8 v4
        let p10 : PM := F237 p9 v5
        ((cn 1), p10))
      else (
        let p11 : PM := F233 p1 (cn 2) (p1.1 13 15 (v3).toNatClampNeg) (p1.1 13 15 (v3).toNatClampNeg) v7 v10
        let p12 : PM := F261 p11 v2 v10
        let p13 : PM := F261 p12 v3 v10
        let p14 : PM := F261 p13 v4 v10
        let p15 : PM := F261 p14 v5 v10
        let p16 : PM := F237 p15 v2
        let p17 : PM := F237 p16 v3
        let p18 : PM := F237 p17 v4
        let p19 : PM := F237 p18 v5
        ((cn 1), p19)))
    else (
      if v1 = 0 then (
        let p20 : PM := F233 p1 (cn 2) (p1.1 13 15 (v5).toNatClampNeg) (p1.1 13 15 (v5).toNatClampNeg) v7 v10
        let p21 : PM := F261 p20 v2 v10
        let p22 : PM := F261 p21 v3 v10
        let p23 : PM := F261 p22 v4 v10
        let p24 : PM := F261 p23 v5 v10
        let p25 : PM := F237 p24 v2
        let p26 : PM := F237 p25 v3
        let p27 : PM := F237 p26 v4
        let p28 : PM := F237 p27 v5
        ((cn 1), p28))
      else (
        let p29 : PM := F233 p1 (cn 2) (p1.1 13 15 (v5).toNatClampNeg) (p1.1 13 15 (v3).toNatClampNeg) v7 v10
        let p30 : PM := F261 p29 v2 v10
        let p31 : PM := F261 p30 v3 v10
        let p32 : PM := F261 p31 v4 v10
        let p33 : PM := F261 p32 v5 v10
        let p34 : PM := F237 p33 v2
        let p35 : PM := F237 p34 v3
        let p36 : PM := F237 p35 v4
        let p37 : PM := F237 p36 v5
        ((cn 1), p37))))
  else (
    let p38 : PM := F233 p (cn 1) s0 (p.1 13 15 (v2).toNatClampNeg) v8 v10
    if v1 = 0 then (
      if v1 = 0 then (
        let p39 : PM := F233 p38 (cn 2) (p38.1 13 15 (v3).toNatClampNeg) (p38.1 13 15 (v5).toNatClampNeg) v7 v10
        let p40 : PM := F261 p39 v2 v10
        let p41 : PM := F261 p40 v3 v10
        let p42 : PM := F261 p41 v4 v10
        let p43 : PM := F261 p42 v5 v10
        let p44 : PM := F237 p43 v2
        let p45 : PM := F237 p44 v3
        let p46 : PM := F237 p45 v4
        let p47 : PM := F237 p46 v5
        ((cn 1), p47))
      else (
        let p48 : PM := F233 p38 (cn 2) (p38.1 13 15 (v3).toNatClampNeg) (p38.1 13 15 (v3).toNatClampNeg) v7 v10
        let p49 : PM := F261 p48 v2 v10
        let p50 : PM := F261 p49 v3 v10
        let p51 : PM := F261 p50 v4 v10
        let p52 : PM := F261 p51 v5 v10
        let p53 : PM := F237 p52 v2
        let p54 : PM := F237 p53 v3
        let p55 : PM := F237 p54 v4
        let p56 : PM := F237 p55 v5
        ((cn 1), p56)))
    else (
      if v1 = 0 then (
        let p57 : PM := F233 p38 (cn 2) (p38.1 13 15 (v5).toNatClampNeg) (p38.1 13 15 (v5).toNatClampNeg) v7 v10
        let p58 : PM := F261 p57 v2 v10
        let p59 : PM := F261 p58 v3 v10
        let p60 : PM := F261 p59 v4 v10
        let p61 : PM := F261 p60 v5 v10
        let p62 : PM := F237 p61 v2
        let p63 : PM := F237 p62 v3
        let p64 : PM := F237 p63 v4
        let p65 : PM := F237 p64 v5
        ((cn 1), p65))
      else (
        let p66 : PM := F233 p38 (cn 2) (p38.1 13 15 (v5).toNatClampNeg) (p38.1 13 15 (v3).toNatClampNeg) v7 v10
        let p67 : PM := F261 p66 v2 v10
        let p68 : PM := F261 p67 v3 v10
        let p69 : PM := F261 p68 v4 v10
        let p70 : PM := F261 p69 v5 v10
        let p71 : PM := F237 p70 v2
        let p72 : PM := F237 p71 v3
        let p73 : PM := F237 p72 v4
        let p74 : PM := F237 p73 v5
        ((cn 1), p74))))
noncomputable def v12_chains_364 (p : PM) (v1 : Int32) (v2 : Int32) (v3 : Int32) (v4 : Int32) (v5 : Int32) (v7 : Int32) (v8 : Int32) (v10 : Int32) (s0 : Int32) : Int32 × PM := bv12_chains_364 v12_deals v12_guards v12_falls1 p v1 v2 v3 v4 v5 v7 v8 v10 s0
noncomputable def bg12_chains_364 (F233 : PM → Int32 → Int32 → Int32 → Int32 → Int32 → PM) (G233 : PM → Int32 → Int32 → Int32 → Int32 → Int32 → Prop) (F237 : PM → Int32 → PM) (G237 : PM → Int32 → Prop) (F261 : PM → Int32 → Int32 → PM) (G261 : PM → Int32 → Int32 → Prop) (p : PM) (v1 : Int32) (v2 : Int32) (v3 : Int32) (v4 : Int32) (v5 : Int32) (v7 : Int32) (v8 : Int32) (v10 : Int32) (s0 : Int32) : Prop :=
  if v1 = 0 then (
    (inb v3 44) ∧ (
    (G233 p (cn 1) s0 (p.1 13 15 (v3).toNatClampNeg) v8 v10) ∧ (
    let p1 : PM := F233 p (cn 1) s0 (p.1 13 15 (v3).toNatClampNeg) v8 v10
    if v1 = 0 then (
      (inb v3 44) ∧ (
      if v1 = 0 then (
        (inb v5 44) ∧ (
        (G233 p1 (cn 2) (p1.1 13 15 (v3).toNatClampNeg) (p1.1 13 15 (v5).toNatClampNeg) v7 v10) ∧ (
        let p2 : PM := F233 p1 (cn 2) (p1.1 13 15 (v3).toNatClampNeg) (p1.1 13 15 (v5).toNatClampNeg) v7 v10
        (G261 p2 v2 v10) ∧ (
        let p3 : PM := F261 p2 v2 v10
        (G261 p3 v3 v10) ∧ (
        let p4 : PM := F261 p3 v3 v10
        (G261 p4 v4 v10) ∧ (
        let p5 : PM := F261 p4 v4 v10
        (G261 p5 v5 v10) ∧ (
        let p6 : PM := F261 p5 v5 v10
        (G237 p6 v2) ∧ (
        let p7 : PM := F237 p6 v2
        (G237 p7 v3) ∧ (
        let p8 : PM := F237 p7 v3
        (G237 p8 v4) ∧ (
        let p9 : PM := F237 p8 v4
        (G237 p9 v5) ∧ (
        let p10 : PM := F237 p9 v5
        True)))))))))))
      else (
        (inb v3 44) ∧ (
        (G233 p1 (cn 2) (p1.1 13 15 (v3).toNatClampNeg) (p1.1 13 15 (v3).toNatClampNeg) v7 v10) ∧ (
        let p11 : PM := F233 p1 (cn 2) (p1.1 13 15 (v3).toNatClampNeg) (p1.1 13 15 (v3).toNatClampNeg) v7 v10
        (G261 p11 v2 v10) ∧ (
        let p12 : PM := F261 p11 v2 v10
        (G261 p12 v3 v10) ∧ (
        let p13 : PM := F261 p12 v3 v10
        (G261 p13 v4 v10) ∧ (
        let p14 : PM := F261 p13 v4 v10
        (G261 p14 v5 v10) ∧ (
        let p15 : PM := F261 p14 v5 v10
        (G237 p15 v2) ∧ (
        let p16 : PM := F237 p15 v2
        (G237 p16 v3) ∧ (
        let p17 : PM := F237 p16 v3
        (G237 p17 v4) ∧ (
        let p18 : PM := F237 p17 v4
        (G237 p18 v5) ∧ (
        let p19 : PM := F237 p18 v5
        True)))))))))))))
    else (
      (inb v5 44) ∧ (
      if v1 = 0 then (
        (inb v5 44) ∧ (
        (G233 p1 (cn 2) (p1.1 13 15 (v5).toNatClampNeg) (p1.1 13 15 (v5).toNatClampNeg) v7 v10) ∧ (
        let p20 : PM := F233 p1 (cn 2) (p1.1 13 15 (v5).toNatClampNeg) (p1.1 13 15 (v5).toNatClampNeg) v7 v10
        (G261 p20 v2 v10) ∧ (
        let p21 : PM := F261 p20 v2 v10
        (G261 p21 v3 v10) ∧ (
        let p22 : PM := F261 p21 v3 v10
        (G261 p22 v4 v10) ∧ (
        let p23 : PM := F261 p22 v4 v10
        (G261 p23 v5 v10) ∧ (
        let p24 : PM := F261 p23 v5 v10
        (G237 p24 v2) ∧ (
        let p25 : PM := F237 p24 v2
        (G237 p25 v3) ∧ (
        let p26 : PM := F237 p25 v3
        (G237 p26 v4) ∧ (
        let p27 : PM := F237 p26 v4
        (G237 p27 v5) ∧ (
        let p28 : PM := F237 p27 v5
        True)))))))))))
      else (
        (inb v3 44) ∧ (
        (G233 p1 (cn 2) (p1.1 13 15 (v5).toNatClampNeg) (p1.1 13 15 (v3).toNatClampNeg) v7 v10) ∧ (
        let p29 : PM := F233 p1 (cn 2) (p1.1 13 15 (v5).toNatClampNeg) (p1.1 13 15 (v3).toNatClampNeg) v7 v10
        (G261 p29 v2 v10) ∧ (
        let p30 : PM := F261 p29 v2 v10
        (G261 p30 v3 v10) ∧ (
        let p31 : PM := F261 p30 v3 v10
        (G261 p31 v4 v10) ∧ (
        let p32 : PM := F261 p31 v4 v10
        (G261 p32 v5 v10) ∧ (
        let p33 : PM := F261 p32 v5 v10
        (G237 p33 v2) ∧ (
        let p34 : PM := F237 p33 v2
        (G237 p34 v3) ∧ (
        let p35 : PM := F237 p34 v3
        (G237 p35 v4) ∧ (
        let p36 : PM := F237 p35 v4
        (G237 p36 v5) ∧ (
        let p37 : PM := F237 p36 v5
        True))))))))))))))))
  else (
    (inb v2 44) ∧ (
    (G233 p (cn 1) s0 (p.1 13 15 (v2).toNatClampNeg) v8 v10) ∧ (
    let p38 : PM := F233 p (cn 1) s0 (p.1 13 15 (v2).toNatClampNeg) v8 v10
    if v1 = 0 then (
      (inb v3 44) ∧ (
      if v1 = 0 then (
        (inb v5 44) ∧ (
        (G233 p38 (cn 2) (p38.1 13 15 (v3).toNatClampNeg) (p38.1 13 15 (v5).toNatClampNeg) v7 v10) ∧ (
        let p39 : PM := F233 p38 (cn 2) (p38.1 13 15 (v3).toNatClampNeg) (p38.1 13 15 (v5).toNatClampNeg) v7 v10
        (G261 p39 v2 v10) ∧ (
        let p40 : PM := F261 p39 v2 v10
        (G261 p40 v3 v10) ∧ (
        let p41 : PM := F261 p40 v3 v10
        (G261 p41 v4 v10) ∧ (
        let p42 : PM := F261 p41 v4 v10
        (G261 p42 v5 v10) ∧ (
        let p43 : PM := F261 p42 v5 v10
        (G237 p43 v2) ∧ (
        let p44 : PM := F237 p43 v2
        (G237 p44 v3) ∧ (
        let p45 : PM := F237 p44 v3
        (G237 p45 v4) ∧ (
        let p46 : PM := F237 p45 v4
        (G237 p46 v5) ∧ (
        let p47 : PM := F237 p46 v5
        True)))))))))))
      else (
        (inb v3 44) ∧ (
        (G233 p38 (cn 2) (p38.1 13 15 (v3).toNatClampNeg) (p38.1 13 15 (v3).toNatClampNeg) v7 v10) ∧ (
        let p48 : PM := F233 p38 (cn 2) (p38.1 13 15 (v3).toNatClampNeg) (p38.1 13 15 (v3).toNatClampNeg) v7 v10
        (G261 p48 v2 v10) ∧ (
        let p49 : PM := F261 p48 v2 v10
        (G261 p49 v3 v10) ∧ (
        let p50 : PM := F261 p49 v3 v10
        (G261 p50 v4 v10) ∧ (
        let p51 : PM := F261 p50 v4 v10
        (G261 p51 v5 v10) ∧ (
        let p52 : PM := F261 p51 v5 v10
        (G237 p52 v2) ∧ (
        let p53 : PM := F237 p52 v2
        (G237 p53 v3) ∧ (
        let p54 : PM := F237 p53 v3
        (G237 p54 v4) ∧ (
        let p55 : PM := F237 p54 v4
        (G237 p55 v5) ∧ (
        let p56 : PM := F237 p55 v5
        True)))))))))))))
    else (
      (inb v5 44) ∧ (
      if v1 = 0 then (
        (inb v5 44) ∧ (
        (G233 p38 (cn 2) (p38.1 13 15 (v5).toNatClampNeg) (p38.1 13 15 (v5).toNatClampNeg) v7 v10) ∧ (
        let p57 : PM := F233 p38 (cn 2) (p38.1 13 15 (v5).toNatClampNeg) (p38.1 13 15 (v5).toNatClampNeg) v7 v10
        (G261 p57 v2 v10) ∧ (
        let p58 : PM := F261 p57 v2 v10
        (G261 p58 v3 v10) ∧ (
        let p59 : PM := F261 p58 v3 v10
        (G261 p59 v4 v10) ∧ (
        let p60 : PM := F261 p59 v4 v10
        (G261 p60 v5 v10) ∧ (
        let p61 : PM := F261 p60 v5 v10
        (G237 p61 v2) ∧ (
        let p62 : PM := F237 p61 v2
        (G237 p62 v3) ∧ (
        let p63 : PM := F237 p62 v3
        (G237 p63 v4) ∧ (
        let p64 : PM := F237 p63 v4
        (G237 p64 v5) ∧ (
        let p65 : PM := F237 p64 v5
        True)))))))))))
      else (
        (inb v3 44) ∧ (
        (G233 p38 (cn 2) (p38.1 13 15 (v5).toNatClampNeg) (p38.1 13 15 (v3).toNatClampNeg) v7 v10) ∧ (
        let p66 : PM := F233 p38 (cn 2) (p38.1 13 15 (v5).toNatClampNeg) (p38.1 13 15 (v3).toNatClampNeg) v7 v10
        (G261 p66 v2 v10) ∧ (
        let p67 : PM := F261 p66 v2 v10
        (G261 p67 v3 v10) ∧ (
        let p68 : PM := F261 p67 v3 v10
        (G261 p68 v4 v10) ∧ (
        let p69 : PM := F261 p68 v4 v10
        (G261 p69 v5 v10) ∧ (
        let p70 : PM := F261 p69 v5 v10
        (G237 p70 v2) ∧ (
        let p71 : PM := F237 p70 v2
        (G237 p71 v3) ∧ (
        let p72 : PM := F237 p71 v3
        (G237 p72 v4) ∧ (
        let p73 : PM := F237 p72 v4
        (G237 p73 v5) ∧ (
        let p74 : PM := F237 p73 v5
        True))))))))))))))))
noncomputable def g12_chains_364 (p : PM) (v1 : Int32) (v2 : Int32) (v3 : Int32) (v4 : Int32) (v5 : Int32) (v7 : Int32) (v8 : Int32) (v10 : Int32) (s0 : Int32) : Prop := bg12_chains_364 v12_deals g12_deals v12_guards g12_guards v12_falls1 g12_falls1 p v1 v2 v3 v4 v5 v7 v8 v10 s0
noncomputable def bv12_chains_316 (F233 : PM → Int32 → Int32 → Int32 → Int32 → Int32 → PM) (kv364 : PM → Int32 → Int32 → Int32 → Int32 → Int32 → Int32 → Int32 → Int32 → Int32 → Int32 × PM) (p : PM) (v1 : Int32) (v2 : Int32) (v3 : Int32) (v4 : Int32) (v5 : Int32) (v6 : Int32) (v7 : Int32) (v8 : Int32) (v10 : Int32) (s0 : Int32) : Int32 × PM :=
  if v1 = 0 then (
    let p1 : PM := F233 p (cn 0) s0 (p.1 13 15 (v2).toNatClampNeg) v6 v10
    if v1 = 0 then (
      kv364 p1 v1 v2 v3 v4 v5 v7 v8 v10 (p1.1 13 15 (v2).toNatClampNeg))
    else (
      kv364 p1 v1 v2 v3 v4 v5 v7 v8 v10 (p1.1 13 15 (v3).toNatClampNeg)))
  else (
    let p2 : PM := F233 p (cn 0) s0 (p.1 13 15 (v4).toNatClampNeg) v6 v10
    if v1 = 0 then (
      kv364 p2 v1 v2 v3 v4 v5 v7 v8 v10 (p2.1 13 15 (v2).toNatClampNeg))
    else (
      kv364 p2 v1 v2 v3 v4 v5 v7 v8 v10 (p2.1 13 15 (v3).toNatClampNeg)))
noncomputable def v12_chains_316 (p : PM) (v1 : Int32) (v2 : Int32) (v3 : Int32) (v4 : Int32) (v5 : Int32) (v6 : Int32) (v7 : Int32) (v8 : Int32) (v10 : Int32) (s0 : Int32) : Int32 × PM := bv12_chains_316 v12_deals v12_chains_364 p v1 v2 v3 v4 v5 v6 v7 v8 v10 s0
noncomputable def bg12_chains_316 (F233 : PM → Int32 → Int32 → Int32 → Int32 → Int32 → PM) (G233 : PM → Int32 → Int32 → Int32 → Int32 → Int32 → Prop) (kg364 : PM → Int32 → Int32 → Int32 → Int32 → Int32 → Int32 → Int32 → Int32 → Int32 → Prop) (p : PM) (v1 : Int32) (v2 : Int32) (v3 : Int32) (v4 : Int32) (v5 : Int32) (v6 : Int32) (v7 : Int32) (v8 : Int32) (v10 : Int32) (s0 : Int32) : Prop :=
  if v1 = 0 then (
    (inb v2 44) ∧ (
    (G233 p (cn 0) s0 (p.1 13 15 (v2).toNatClampNeg) v6 v10) ∧ (
    let p1 : PM := F233 p (cn 0) s0 (p.1 13 15 (v2).toNatClampNeg) v6 v10
    if v1 = 0 then (
      (inb v2 44) ∧ (
      kg364 p1 v1 v2 v3 v4 v5 v7 v8 v10 (p1.1 13 15 (v2).toNatClampNeg)))
    else (
      (inb v3 44) ∧ (
      kg364 p1 v1 v2 v3 v4 v5 v7 v8 v10 (p1.1 13 15 (v3).toNatClampNeg))))))
  else (
    (inb v4 44) ∧ (
    (G233 p (cn 0) s0 (p.1 13 15 (v4).toNatClampNeg) v6 v10) ∧ (
    let p2 : PM := F233 p (cn 0) s0 (p.1 13 15 (v4).toNatClampNeg) v6 v10
    if v1 = 0 then (
      (inb v2 44) ∧ (
      kg364 p2 v1 v2 v3 v4 v5 v7 v8 v10 (p2.1 13 15 (v2).toNatClampNeg)))
    else (
      (inb v3 44) ∧ (
      kg364 p2 v1 v2 v3 v4 v5 v7 v8 v10 (p2.1 13 15 (v3).toNatClampNeg))))))
noncomputable def g12_chains_316 (p : PM) (v1 : Int32) (v2 : Int32) (v3 : Int32) (v4 : Int32) (v5 : Int32) (v6 : Int32) (v7 : Int32) (v8 : Int32) (v10 : Int32) (s0 : Int32) : Prop := bg12_chains_316 v12_deals g12_deals g12_chains_364 p v1 v2 v3 v4 v5 v6 v7 v8 v10 s0
noncomputable def bv12_chains_154 (F226 : PM → Int32 → Int32) (F244 : PM → Int32 → Int32 → Int32) (F260 : PM → Int32 → Int32 → Int32 → Int32 → Int32) (kv248 : PM → Int32 → Int32 → Int32 → Int32 → Int32 → Int32 → Int32 → Int32 → Int32 × PM) (kv316 : PM → Int32 → Int32 → Int32 → Int32 → Int32 → Int32 → Int32 → Int32 → Int32 → Int32 → Int32 × PM) (p : PM) (v1 : Int32) (v2 : Int32) (v3 : Int32) (v4 : Int32) (v5 : Int32) (v6 : Int32) (v7 : Int32) (v8 : Int32) (s0 : Int32) : Int32 × PM :=
  if s0 = 0 then (
    kv248 p v1 v2 v3 v4 v5 v6 v7 v8)
  else (
    if v1 = 0 then (
      if (F260 p (cn 0) v4 v2 v6) = 0 then (
        kv248 p v1 v2 v3 v4 v5 v6 v7 v8)
      else (
        if (F260 p (cn 1) v2 v3 v8) = 0 then (
          kv248 p v1 v2 v3 v4 v5 v6 v7 v8)
        else (
          if (F260 p (cn 2) v3 v5 v7) = 0 then (
            kv248 p v1 v2 v3 v4 v5 v6 v7 v8)
          else (
            let x1 : Int32 := (F244 p (F244 p (F226 p v2) (F226 p v3)) (F244 p (F226 p v4) (F226 p v5)))
            if v1 = 0 then (
              kv316 p v1 v2 v3 v4 v5 v6 v7 v8 x1 (p.1 13 15 (v4).toNatClampNeg))
            else (
              kv316 p v1 v2 v3 v4 v5 v6 v7 v8 x1 (p.1 13 15 (v2).toNatClampNeg))))))
    else (
      if (F260 p (cn 0) v2 v4 v6) = 0 then (
        kv248 p v1 v2 v3 v4 v5 v6 v7 v8)
      else (
        if (F260 p (cn 1) v3 v2 v8) = 0 then (
          kv248 p v1 v2 v3 v4 v5 v6 v7 v8)
        else (
          if (F260 p (cn 2) v5 v3 v7) = 0 then (
            kv248 p v1 v2 v3 v4 v5 v6 v7 v8)
          else (
            let x2 : Int32 := (F244 p (F244 p (F226 p v2) (F226 p v3)) (F244 p (F226 p v4) (F226 p v5)))
            if v1 = 0 then (
              kv316 p v1 v2 v3 v4 v5 v6 v7 v8 x2 (p.1 13 15 (v4).toNatClampNeg))
            else (
              kv316 p v1 v2 v3 v4 v5 v6 v7 v8 x2 (p.1 13 15 (v2).toNatClampNeg)))))))
noncomputable def v12_chains_154 (p : PM) (v1 : Int32) (v2 : Int32) (v3 : Int32) (v4 : Int32) (v5 : Int32) (v6 : Int32) (v7 : Int32) (v8 : Int32) (s0 : Int32) : Int32 × PM := bv12_chains_154 v12_showsNow v12_least v12_canDeal v12_chains_248 v12_chains_316 p v1 v2 v3 v4 v5 v6 v7 v8 s0
noncomputable def bg12_chains_154 (F226 : PM → Int32 → Int32) (G226 : PM → Int32 → Prop) (F244 : PM → Int32 → Int32 → Int32) (G244 : PM → Int32 → Int32 → Prop) (F260 : PM → Int32 → Int32 → Int32 → Int32 → Int32) (G260 : PM → Int32 → Int32 → Int32 → Int32 → Prop) (kg248 : PM → Int32 → Int32 → Int32 → Int32 → Int32 → Int32 → Int32 → Int32 → Prop) (kg316 : PM → Int32 → Int32 → Int32 → Int32 → Int32 → Int32 → Int32 → Int32 → Int32 → Int32 → Prop) (p : PM) (v1 : Int32) (v2 : Int32) (v3 : Int32) (v4 : Int32) (v5 : Int32) (v6 : Int32) (v7 : Int32) (v8 : Int32) (s0 : Int32) : Prop :=
  if s0 = 0 then (
    kg248 p v1 v2 v3 v4 v5 v6 v7 v8)
  else (
    if v1 = 0 then (
      (G260 p (cn 0) v4 v2 v6) ∧ (
      if (F260 p (cn 0) v4 v2 v6) = 0 then (
        kg248 p v1 v2 v3 v4 v5 v6 v7 v8)
      else (
        (G260 p (cn 1) v2 v3 v8) ∧ (
        if (F260 p (cn 1) v2 v3 v8) = 0 then (
          kg248 p v1 v2 v3 v4 v5 v6 v7 v8)
        else (
          (G260 p (cn 2) v3 v5 v7) ∧ (
          if (F260 p (cn 2) v3 v5 v7) = 0 then (
            kg248 p v1 v2 v3 v4 v5 v6 v7 v8)
          else (
            (G226 p v2) ∧ (
            (G226 p v3) ∧ (
            (G244 p (F226 p v2) (F226 p v3)) ∧ (
            (G226 p v4) ∧ (
            (G226 p v5) ∧ (
            (G244 p (F226 p v4) (F226 p v5)) ∧ (
            (G244 p (F244 p (F226 p v2) (F226 p v3)) (F244 p (F226 p v4) (F226 p v5))) ∧ (
            let x1 : Int32 := (F244 p (F244 p (F226 p v2) (F226 p v3)) (F244 p (F226 p v4) (F226 p v5)))
            if v1 = 0 then (
              (inb v4 44) ∧ (
              kg316 p v1 v2 v3 v4 v5 v6 v7 v8 x1 (p.1 13 15 (v4).toNatClampNeg)))
            else (
              (inb v2 44) ∧ (
              kg316 p v1 v2 v3 v4 v5 v6 v7 v8 x1 (p.1 13 15 (v2).toNatClampNeg)))))))))))))))))
    else (
      (G260 p (cn 0) v2 v4 v6) ∧ (
      if (F260 p (cn 0) v2 v4 v6) = 0 then (
        kg248 p v1 v2 v3 v4 v5 v6 v7 v8)
      else (
        (G260 p (cn 1) v3 v2 v8) ∧ (
        if (F260 p (cn 1) v3 v2 v8) = 0 then (
          kg248 p v1 v2 v3 v4 v5 v6 v7 v8)
        else (
          (G260 p (cn 2) v5 v3 v7) ∧ (
          if (F260 p (cn 2) v5 v3 v7) = 0 then (
            kg248 p v1 v2 v3 v4 v5 v6 v7 v8)
          else (
            (G226 p v2) ∧ (
            (G226 p v3) ∧ (
            (G244 p (F226 p v2) (F226 p v3)) ∧ (
            (G226 p v4) ∧ (
            (G226 p v5) ∧ (
            (G244 p (F226 p v4) (F226 p v5)) ∧ (
            (G244 p (F244 p (F226 p v2) (F226 p v3)) (F244 p (F226 p v4) (F226 p v5))) ∧ (
            let x2 : Int32 := (F244 p (F244 p (F226 p v2) (F226 p v3)) (F244 p (F226 p v4) (F226 p v5)))
            if v1 = 0 then (
              (inb v4 44) ∧ (
              kg316 p v1 v2 v3 v4 v5 v6 v7 v8 x2 (p.1 13 15 (v4).toNatClampNeg)))
            else (
              (inb v2 44) ∧ (
              kg316 p v1 v2 v3 v4 v5 v6 v7 v8 x2 (p.1 13 15 (v2).toNatClampNeg))))))))))))))))))
noncomputable def g12_chains_154 (p : PM) (v1 : Int32) (v2 : Int32) (v3 : Int32) (v4 : Int32) (v5 : Int32) (v6 : Int32) (v7 : Int32) (v8 : Int32) (s0 : Int32) : Prop := bg12_chains_154 v12_showsNow g12_showsNow v12_least g12_least v12_canDeal g12_canDeal g12_chains_248 g12_chains_316 p v1 v2 v3 v4 v5 v6 v7 v8 s0
noncomputable def bv12_chains_25 (F218 : PM → Int32 → Int32) (F259 : PM → Int32 → Int32 → Int32) (kv64 : PM → Int32 × PM) (kv154 : PM → Int32 → Int32 → Int32 → Int32 → Int32 → Int32 → Int32 → Int32 → Int32 → Int32 × PM) (p : PM) (v1 : Int32) (v2 : Int32) (v3 : Int32) (s0 : Int32) : Int32 × PM :=
  let x1 : Int32 := (F259 p (cn 0) s0)
  let x2 : Int32 := (F259 p (cn 2) v1)
  if v2 < 0 then (
    kv64 p)
  else (
    if v3 < 0 then (
      kv64 p)
    else (
      if x1 < 0 then (
        kv64 p)
      else (
        if x2 < 0 then (
          kv64 p)
        else (
          if (F218 p (cn 1)) = 0 then (
            kv64 p)
          else (
            let x3 : Int32 := (p.1 13 25 (x1).toNatClampNeg)
            let x4 : Int32 := (p.1 13 25 (x2).toNatClampNeg)
            let x5 : Int32 := ((p.1 13 25 (v3).toNatClampNeg) + x4)
            if v1 = 0 then (
              if (x3 - x4) < ((p.1 13 25 (v2).toNatClampNeg) + (p.1 13 25 (v3).toNatClampNeg)) then (
                kv154 p v1 v2 v3 x1 x2 x3 x4 x5 (cn 0))
              else (
                kv154 p v1 v2 v3 x1 x2 x3 x4 x5 (cn 1)))
            else (
              if ((p.1 13 25 (v2).toNatClampNeg) + (p.1 13 25 (v3).toNatClampNeg)) < (x3 - x4) then (
                kv154 p v1 v2 v3 x1 x2 x3 x4 x5 (cn 0))
              else (
                kv154 p v1 v2 v3 x1 x2 x3 x4 x5 (cn 1))))))))
noncomputable def v12_chains_25 (p : PM) (v1 : Int32) (v2 : Int32) (v3 : Int32) (s0 : Int32) : Int32 × PM := bv12_chains_25 v12_isOpen v12_firstOf v12_chains_64 v12_chains_154 p v1 v2 v3 s0
noncomputable def bg12_chains_25 (F218 : PM → Int32 → Int32) (G218 : PM → Int32 → Prop) (F259 : PM → Int32 → Int32 → Int32) (G259 : PM → Int32 → Int32 → Prop) (kg64 : PM → Prop) (kg154 : PM → Int32 → Int32 → Int32 → Int32 → Int32 → Int32 → Int32 → Int32 → Int32 → Prop) (p : PM) (v1 : Int32) (v2 : Int32) (v3 : Int32) (s0 : Int32) : Prop :=
  (G259 p (cn 0) s0) ∧ (
  let x1 : Int32 := (F259 p (cn 0) s0)
  (G259 p (cn 2) v1) ∧ (
  let x2 : Int32 := (F259 p (cn 2) v1)
  if v2 < 0 then (
    kg64 p)
  else (
    if v3 < 0 then (
      kg64 p)
    else (
      if x1 < 0 then (
        kg64 p)
      else (
        if x2 < 0 then (
          kg64 p)
        else (
          (G218 p (cn 1)) ∧ (
          if (F218 p (cn 1)) = 0 then (
            kg64 p)
          else (
            (inb x1 44) ∧ (
            let x3 : Int32 := (p.1 13 25 (x1).toNatClampNeg)
            (inb x2 44) ∧ (
            let x4 : Int32 := (p.1 13 25 (x2).toNatClampNeg)
            (inb v3 44) ∧ (
            let x5 : Int32 := ((p.1 13 25 (v3).toNatClampNeg) + x4)
            if v1 = 0 then (
              (inb v2 44) ∧ (
              (inb v3 44) ∧ (
              if (x3 - x4) < ((p.1 13 25 (v2).toNatClampNeg) + (p.1 13 25 (v3).toNatClampNeg)) then (
                kg154 p v1 v2 v3 x1 x2 x3 x4 x5 (cn 0))
              else (
                kg154 p v1 v2 v3 x1 x2 x3 x4 x5 (cn 1)))))
            else (
              (inb v2 44) ∧ (
              (inb v3 44) ∧ (
              if ((p.1 13 25 (v2).toNatClampNeg) + (p.1 13 25 (v3).toNatClampNeg)) < (x3 - x4) then (
                kg154 p v1 v2 v3 x1 x2 x3 x4 x5 (cn 0))
              else (
                kg154 p v1 v2 v3 x1 x2 x3 x4 x5 (cn 1))))))))))))))))
noncomputable def g12_chains_25 (p : PM) (v1 : Int32) (v2 : Int32) (v3 : Int32) (s0 : Int32) : Prop := bg12_chains_25 v12_isOpen g12_isOpen v12_firstOf g12_firstOf g12_chains_64 g12_chains_154 p v1 v2 v3 s0
noncomputable def bv12_chains (F259 : PM → Int32 → Int32 → Int32) (kv25 : PM → Int32 → Int32 → Int32 → Int32 → Int32 × PM) (p : PM) (v1 : Int32) : Int32 × PM :=
  let x1 : Int32 := (F259 p (cn 4) v1)
  let x2 : Int32 := (F259 p (cn 5) v1)
  if v1 = 0 then (
    kv25 p v1 x1 x2 (cn 1))
  else (
    kv25 p v1 x1 x2 (cn 0))
noncomputable def v12_chains (p : PM) (v1 : Int32) : Int32 × PM := bv12_chains v12_firstOf v12_chains_25 p v1
noncomputable def bg12_chains (F259 : PM → Int32 → Int32 → Int32) (G259 : PM → Int32 → Int32 → Prop) (kg25 : PM → Int32 → Int32 → Int32 → Int32 → Prop) (p : PM) (v1 : Int32) : Prop :=
  (G259 p (cn 4) v1) ∧ (
  let x1 : Int32 := (F259 p (cn 4) v1)
  (G259 p (cn 5) v1) ∧ (
  let x2 : Int32 := (F259 p (cn 5) v1)
  if v1 = 0 then (
    kg25 p v1 x1 x2 (cn 1))
  else (
    kg25 p v1 x1 x2 (cn 0))))
noncomputable def g12_chains (p : PM) (v1 : Int32) : Prop := bg12_chains v12_firstOf g12_firstOf g12_chains_25 p v1
def R263 : List Row := [(0, .aload_n 0, 1, 0, (0, 0, 0, 0, 0, 0)), (1, .iconst 4, 1, 0, (0, 0, 0, 0, 0, 4)), (2, .iload_n 1, 1, 0, (0, 0, 0, 0, 0, 0)), (3, .invokevirtual 337, 3, 0, (0, 3, 0, 0, 1, 0)), (6, .istore_n 2, 1, 0, (0, 0, 0, 0, 0, 0)), (7, .aload_n 0, 1, 0, (0, 0, 0, 0, 0, 0)), (8, .iconst 5, 1, 0, (0, 0, 0, 0, 0, 5)), (9, .iload_n 1, 1, 0, (0, 0, 0, 0, 0, 0)), (10, .invokevirtual 337, 3, 0, (0, 3, 0, 0, 1, 0)), (13, .istore_n 3, 1, 0, (0, 0, 0, 0, 0, 0)), (14, .aload_n 0, 1, 0, (0, 0, 0, 0, 0, 0)), (15, .iconst 0, 1, 0, (0, 0, 0, 0, 0, 0)), (16, .iload_n 1, 1, 0, (0, 0, 0, 0, 0, 0)), (17, .ifCond .ne 7, 3, 0, (0, 0, 0, 0, 0, 0)), (20, .iconst 1, 1, 0, (0, 0, 0, 0, 0, 1)), (21, .goto 4, 3, 0, (0, 0, 0, 0, 0, 0)), (24, .iconst 0, 1, 0, (0, 0, 0, 0, 0, 0)), (25, .invokevirtual 337, 3, 1, (0, 3, 0, 0, 1, 0)), (28, .istore 4, 2, 0, (0, 0, 0, 0, 0, 0)), (30, .aload_n 0, 1, 0, (0, 0, 0, 0, 0, 0)), (31, .iconst 2, 1, 0, (0, 0, 0, 0, 0, 2)), (32, .iload_n 1, 1, 0, (0, 0, 0, 0, 0, 0)), (33, .invokevirtual 337, 3, 0, (0, 3, 0, 0, 1, 0)), (36, .istore 5, 2, 0, (0, 0, 0, 0, 0, 0)), (38, .iload_n 2, 1, 0, (0, 0, 0, 0, 0, 0)), (39, .ifCond .lt 25, 3, 0, (0, 0, 0, 0, 0, 0)), (42, .iload_n 3, 1, 0, (0, 0, 0, 0, 0, 0)), (43, .ifCond .lt 21, 3, 0, (0, 0, 0, 0, 0, 0)), (46, .iload 4, 2, 0, (0, 0, 0, 0, 0, 0)), (48, .ifCond .lt 16, 3, 0, (0, 0, 0, 0, 0, 0)), (51, .iload 5, 2, 0, (0, 0, 0, 0, 0, 0)), (53, .ifCond .lt 11, 3, 0, (0, 0, 0, 0, 0, 0)), (56, .aload_n 0, 1, 0, (0, 0, 0, 0, 0, 0)), (57, .iconst 1, 1, 0, (0, 0, 0, 0, 0, 1)), (58, .invokevirtual 328, 3, 0, (1, 2, 0, 0, 1, 0)), (61, .ifCond .ne 5, 3, 0, (0, 0, 0, 0, 0, 0)), (64, .iconst 0, 1, 2, (0, 0, 0, 0, 0, 0)), (65, .ireturn, 1, 0, (1, 0, 0, 0, 0, 0)), (66, .aload_n 0, 1, 0, (0, 0, 0, 0, 0, 0)), (67, .getfield 102, 3, 0, (12, 33, 16, 2, 25, 0)), (70, .iload 4, 2, 0, (0, 0, 0, 0, 0, 0)), (72, .iaload, 1, 0, (13, 44, 0, 0, 0, 0)), (73, .istore 6, 2, 0, (0, 0, 0, 0, 0, 0)), (75, .aload_n 0, 1, 0, (0, 0, 0, 0, 0, 0)), (76, .getfield 102, 3, 0, (12, 33, 16, 2, 25, 0)), (79, .iload 5, 2, 0, (0, 0, 0, 0, 0, 0)), (81, .iaload, 1, 0, (13, 44, 0, 0, 0, 0)), (82, .istore 7, 2, 0, (0, 0, 0, 0, 0, 0)), (84, .aload_n 0, 1, 0, (0, 0, 0, 0, 0, 0)), (85, .getfield 102, 3, 0, (12, 33, 16, 2, 25, 0)), (88, .iload_n 3, 1, 0, (0, 0, 0, 0, 0, 0)), (89, .iaload, 1, 0, (13, 44, 0, 0, 0, 0)), (90, .iload 7, 2, 0, (0, 0, 0, 0, 0, 0)), (92, .iadd, 1, 0, (0, 0, 0, 0, 0, 0)), (93, .istore 8, 2, 0, (0, 0, 0, 0, 0, 0)), (95, .iload_n 1, 1, 0, (0, 0, 0, 0, 0, 0)), (96, .ifCond .eq 32, 3, 0, (0, 0, 0, 0, 0, 0)), (99, .aload_n 0, 1, 0, (0, 0, 0, 0, 0, 0)), (100, .getfield 102, 3, 0, (12, 33, 16, 2, 25, 0)), (103, .iload_n 2, 1, 0, (0, 0, 0, 0, 0, 0)), (104, .iaload, 1, 0, (13, 44, 0, 0, 0, 0)), (105, .aload_n 0, 1, 0, (0, 0, 0, 0, 0, 0)), (106, .getfield 102, 3, 0, (12, 33, 16, 2, 25, 0)), (109, .iload_n 3, 1, 0, (0, 0, 0, 0, 0, 0)), (110, .iaload, 1, 0, (13, 44, 0, 0, 0, 0)), (111, .iadd, 1, 0, (0, 0, 0, 0, 0, 0)), (112, .iload 6, 2, 0, (0, 0, 0, 0, 0, 0)), (114, .iload 7, 2, 0, (0, 0, 0, 0, 0, 0)), (116, .isub, 1, 0, (0, 0, 0, 0, 0, 0)), (117, .if_icmp .lt 7, 3, 0, (0, 0, 0, 0, 0, 0)), (120, .iconst 1, 1, 0, (0, 0, 0, 0, 0, 1)), (121, .goto 33, 3, 0, (0, 0, 0, 0, 0, 0)), (124, .iconst 0, 1, 0, (0, 0, 0, 0, 0, 0)), (125, .goto 29, 3, 0, (0, 0, 0, 0, 0, 0)), (128, .aload_n 0, 1, 0, (0, 0, 0, 0, 0, 0)), (129, .getfield 102, 3, 0, (12, 33, 16, 2, 25, 0)), (132, .iload_n 2, 1, 0, (0, 0, 0, 0, 0, 0)), (133, .iaload, 1, 0, (13, 44, 0, 0, 0, 0)), (134, .aload_n 0, 1, 0, (0, 0, 0, 0, 0, 0)), (135, .getfield 102, 3, 0, (12, 33, 16, 2, 25, 0)), (138, .iload_n 3, 1, 0, (0, 0, 0, 0, 0, 0)), (139, .iaload, 1, 0, (13, 44, 0, 0, 0, 0)), (140, .iadd, 1, 0, (0, 0, 0, 0, 0, 0)), (141, .iload 6, 2, 0, (0, 0, 0, 0, 0, 0)), (143, .iload 7, 2, 0, (0, 0, 0, 0, 0, 0)), (145, .isub, 1, 0, (0, 0, 0, 0, 0, 0)), (146, .if_icmp .gt 7, 3, 0, (0, 0, 0, 0, 0, 0)), (149, .iconst 1, 1, 0, (0, 0, 0, 0, 0, 1)), (150, .goto 4, 3, 0, (0, 0, 0, 0, 0, 0)), (153, .iconst 0, 1, 0, (0, 0, 0, 0, 0, 0)), (154, .istore 9, 2, 3, (0, 0, 0, 0, 0, 0)), (156, .iload 9, 2, 0, (0, 0, 0, 0, 0, 0)), (158, .ifCond .eq 90, 3, 0, (0, 0, 0, 0, 0, 0)), (161, .iload_n 1, 1, 0, (0, 0, 0, 0, 0, 0)), (162, .ifCond .eq 44, 3, 0, (0, 0, 0, 0, 0, 0)), (165, .aload_n 0, 1, 0, (0, 0, 0, 0, 0, 0)), (166, .iconst 0, 1, 0, (0, 0, 0, 0, 0, 0)), (167, .iload_n 2, 1, 0, (0, 0, 0, 0, 0, 0)), (168, .iload 4, 2, 0, (0, 0, 0, 0, 0, 0)), (170, .iload 6, 2, 0, (0, 0, 0, 0, 0, 0)), (172, .invokevirtual 340, 3, 0, (2, 5, 0, 0, 1, 0)), (175, .ifCond .eq 73, 3, 0, (0, 0, 0, 0, 0, 0)), (178, .aload_n 0, 1, 0, (0, 0, 0, 0, 0, 0)), (179, .iconst 1, 1, 0, (0, 0, 0, 0, 0, 1)), (180, .iload_n 3, 1, 0, (0, 0, 0, 0, 0, 0)), (181, .iload_n 2, 1, 0, (0, 0, 0, 0, 0, 0)), (182, .iload 8, 2, 0, (0, 0, 0, 0, 0, 0)), (184, .invokevirtual 340, 3, 0, (2, 5, 0, 0, 1, 0)), (187, .ifCond .eq 61, 3, 0, (0, 0, 0, 0, 0, 0)), (190, .aload_n 0, 1, 0, (0, 0, 0, 0, 0, 0)), (191, .iconst 2, 1, 0, (0, 0, 0, 0, 0, 2)), (192, .iload 5, 2, 0, (0, 0, 0, 0, 0, 0)), (194, .iload_n 3, 1, 0, (0, 0, 0, 0, 0, 0)), (195, .iload 7, 2, 0, (0, 0, 0, 0, 0, 0)), (197, .invokevirtual 340, 3, 0, (2, 5, 0, 0, 1, 0)), (200, .ifCond .eq 48, 3, 0, (0, 0, 0, 0, 0, 0)), (203, .goto 41, 3, 0, (0, 0, 0, 0, 0, 0)), (206, .aload_n 0, 1, 0, (0, 0, 0, 0, 0, 0)), (207, .iconst 0, 1, 0, (0, 0, 0, 0, 0, 0)), (208, .iload 4, 2, 0, (0, 0, 0, 0, 0, 0)), (210, .iload_n 2, 1, 0, (0, 0, 0, 0, 0, 0)), (211, .iload 6, 2, 0, (0, 0, 0, 0, 0, 0)), (213, .invokevirtual 340, 3, 0, (2, 5, 0, 0, 1, 0)), (216, .ifCond .eq 32, 3, 0, (0, 0, 0, 0, 0, 0)), (219, .aload_n 0, 1, 0, (0, 0, 0, 0, 0, 0)), (220, .iconst 1, 1, 0, (0, 0, 0, 0, 0, 1)), (221, .iload_n 2, 1, 0, (0, 0, 0, 0, 0, 0)), (222, .iload_n 3, 1, 0, (0, 0, 0, 0, 0, 0)), (223, .iload 8, 2, 0, (0, 0, 0, 0, 0, 0)), (225, .invokevirtual 340, 3, 0, (2, 5, 0, 0, 1, 0)), (228, .ifCond .eq 20, 3, 0, (0, 0, 0, 0, 0, 0)), (231, .aload_n 0, 1, 0, (0, 0, 0, 0, 0, 0)), (232, .iconst 2, 1, 0, (0, 0, 0, 0, 0, 2)), (233, .iload_n 3, 1, 0, (0, 0, 0, 0, 0, 0)), (234, .iload 5, 2, 0, (0, 0, 0, 0, 0, 0)), (236, .iload 7, 2, 0, (0, 0, 0, 0, 0, 0)), (238, .invokevirtual 340, 3, 0, (2, 5, 0, 0, 1, 0)), (241, .ifCond .eq 7, 3, 0, (0, 0, 0, 0, 0, 0)), (244, .iconst 1, 1, 0, (0, 0, 0, 0, 0, 1)), (245, .goto 4, 3, 0, (0, 0, 0, 0, 0, 0)), (248, .iconst 0, 1, 4, (0, 0, 0, 0, 0, 0)), (249, .istore 9, 2, 0, (0, 0, 0, 0, 0, 0)), (251, .iload 9, 2, 0, (0, 0, 0, 0, 0, 0)), (253, .ifCond .ne 5, 3, 0, (0, 0, 0, 0, 0, 0)), (256, .iconst 0, 1, 0, (0, 0, 0, 0, 0, 0)), (257, .ireturn, 1, 0, (1, 0, 0, 0, 0, 0)), (258, .aload_n 0, 1, 0, (0, 0, 0, 0, 0, 0)), (259, .aload_n 0, 1, 0, (0, 0, 0, 0, 0, 0)), (260, .aload_n 0, 1, 0, (0, 0, 0, 0, 0, 0)), (261, .iload_n 2, 1, 0, (0, 0, 0, 0, 0, 0)), (262, .invokevirtual 258, 3, 0, (3, 2, 0, 0, 1, 0)), (265, .aload_n 0, 1, 0, (0, 0, 0, 0, 0, 0)), (266, .iload_n 3, 1, 0, (0, 0, 0, 0, 0, 0)), (267, .invokevirtual 258, 3, 0, (3, 2, 0, 0, 1, 0)), (270, .invokevirtual 261, 3, 0, (4, 3, 0, 0, 1, 0)), (273, .aload_n 0, 1, 0, (0, 0, 0, 0, 0, 0)), (274, .aload_n 0, 1, 0, (0, 0, 0, 0, 0, 0)), (275, .iload 4, 2, 0, (0, 0, 0, 0, 0, 0)), (277, .invokevirtual 258, 3, 0, (3, 2, 0, 0, 1, 0)), (280, .aload_n 0, 1, 0, (0, 0, 0, 0, 0, 0)), (281, .iload 5, 2, 0, (0, 0, 0, 0, 0, 0)), (283, .invokevirtual 258, 3, 0, (3, 2, 0, 0, 1, 0)), (286, .invokevirtual 261, 3, 0, (4, 3, 0, 0, 1, 0)), (289, .invokevirtual 261, 3, 0, (4, 3, 0, 0, 1, 0)), (292, .istore 10, 2, 0, (0, 0, 0, 0, 0, 0)), (294, .aload_n 0, 1, 0, (0, 0, 0, 0, 0, 0)), (295, .iconst 0, 1, 0, (0, 0, 0, 0, 0, 0)), (296, .iload_n 1, 1, 0, (0, 0, 0, 0, 0, 0)), (297, .ifCond .eq 12, 3, 0, (0, 0, 0, 0, 0, 0)), (300, .aload_n 0, 1, 0, (0, 0, 0, 0, 0, 0)), (301, .getfield 66, 3, 0, (12, 21, 16, 2, 15, 0)), (304, .iload_n 2, 1, 0, (0, 0, 0, 0, 0, 0)), (305, .iaload, 1, 0, (13, 44, 0, 0, 0, 0)), (306, .goto 10, 3, 0, (0, 0, 0, 0, 0, 0)), (309, .aload_n 0, 1, 0, (0, 0, 0, 0, 0, 0)), (310, .getfield 66, 3, 0, (12, 21, 16, 2, 15, 0)), (313, .iload 4, 2, 0, (0, 0, 0, 0, 0, 0)), (315, .iaload, 1, 0, (13, 44, 0, 0, 0, 0)), (316, .iload_n 1, 1, 5, (0, 0, 0, 0, 0, 0)), (317, .ifCond .eq 13, 3, 0, (0, 0, 0, 0, 0, 0)), (320, .aload_n 0, 1, 0, (0, 0, 0, 0, 0, 0)), (321, .getfield 66, 3, 0, (12, 21, 16, 2, 15, 0)), (324, .iload 4, 2, 0, (0, 0, 0, 0, 0, 0)), (326, .iaload, 1, 0, (13, 44, 0, 0, 0, 0)), (327, .goto 9, 3, 0, (0, 0, 0, 0, 0, 0)), (330, .aload_n 0, 1, 0, (0, 0, 0, 0, 0, 0)), (331, .getfield 66, 3, 0, (12, 21, 16, 2, 15, 0)), (334, .iload_n 2, 1, 0, (0, 0, 0, 0, 0, 0)), (335, .iaload, 1, 0, (13, 44, 0, 0, 0, 0)), (336, .iload 6, 2, 0, (0, 0, 0, 0, 0, 0)), (338, .iload 10, 2, 0, (0, 0, 0, 0, 0, 0)), (340, .invokevirtual 269, 3, 0, (5, 6, 0, 0, 1, 0)), (343, .aload_n 0, 1, 0, (0, 0, 0, 0, 0, 0)), (344, .iconst 1, 1, 0, (0, 0, 0, 0, 0, 1)), (345, .iload_n 1, 1, 0, (0, 0, 0, 0, 0, 0)), (346, .ifCond .eq 12, 3, 0, (0, 0, 0, 0, 0, 0)), (349, .aload_n 0, 1, 0, (0, 0, 0, 0, 0, 0)), (350, .getfield 66, 3, 0, (12, 21, 16, 2, 15, 0)), (353, .iload_n 3, 1, 0, (0, 0, 0, 0, 0, 0)), (354, .iaload, 1, 0, (13, 44, 0, 0, 0, 0)), (355, .goto 9, 3, 0, (0, 0, 0, 0, 0, 0)), (358, .aload_n 0, 1, 0, (0, 0, 0, 0, 0, 0)), (359, .getfield 66, 3, 0, (12, 21, 16, 2, 15, 0)), (362, .iload_n 2, 1, 0, (0, 0, 0, 0, 0, 0)), (363, .iaload, 1, 0, (13, 44, 0, 0, 0, 0)), (364, .iload_n 1, 1, 6, (0, 0, 0, 0, 0, 0)), (365, .ifCond .eq 12, 3, 0, (0, 0, 0, 0, 0, 0)), (368, .aload_n 0, 1, 0, (0, 0, 0, 0, 0, 0)), (369, .getfield 66, 3, 0, (12, 21, 16, 2, 15, 0)), (372, .iload_n 2, 1, 0, (0, 0, 0, 0, 0, 0)), (373, .iaload, 1, 0, (13, 44, 0, 0, 0, 0)), (374, .goto 9, 3, 0, (0, 0, 0, 0, 0, 0)), (377, .aload_n 0, 1, 0, (0, 0, 0, 0, 0, 0)), (378, .getfield 66, 3, 0, (12, 21, 16, 2, 15, 0)), (381, .iload_n 3, 1, 0, (0, 0, 0, 0, 0, 0)), (382, .iaload, 1, 0, (13, 44, 0, 0, 0, 0)), (383, .iload 8, 2, 0, (0, 0, 0, 0, 0, 0)), (385, .iload 10, 2, 0, (0, 0, 0, 0, 0, 0)), (387, .invokevirtual 269, 3, 0, (5, 6, 0, 0, 1, 0)), (390, .aload_n 0, 1, 0, (0, 0, 0, 0, 0, 0)), (391, .iconst 2, 1, 0, (0, 0, 0, 0, 0, 2)), (392, .iload_n 1, 1, 0, (0, 0, 0, 0, 0, 0)), (393, .ifCond .eq 13, 3, 0, (0, 0, 0, 0, 0, 0)), (396, .aload_n 0, 1, 0, (0, 0, 0, 0, 0, 0)), (397, .getfield 66, 3, 0, (12, 21, 16, 2, 15, 0)), (400, .iload 5, 2, 0, (0, 0, 0, 0, 0, 0)), (402, .iaload, 1, 0, (13, 44, 0, 0, 0, 0)), (403, .goto 9, 3, 0, (0, 0, 0, 0, 0, 0)), (406, .aload_n 0, 1, 0, (0, 0, 0, 0, 0, 0)), (407, .getfield 66, 3, 0, (12, 21, 16, 2, 15, 0)), (410, .iload_n 3, 1, 0, (0, 0, 0, 0, 0, 0)), (411, .iaload, 1, 0, (13, 44, 0, 0, 0, 0)), (412, .iload_n 1, 1, 0, (0, 0, 0, 0, 0, 0)), (413, .ifCond .eq 12, 3, 0, (0, 0, 0, 0, 0, 0)), (416, .aload_n 0, 1, 0, (0, 0, 0, 0, 0, 0)), (417, .getfield 66, 3, 0, (12, 21, 16, 2, 15, 0)), (420, .iload_n 3, 1, 0, (0, 0, 0, 0, 0, 0)), (421, .iaload, 1, 0, (13, 44, 0, 0, 0, 0)), (422, .goto 10, 3, 0, (0, 0, 0, 0, 0, 0)), (425, .aload_n 0, 1, 0, (0, 0, 0, 0, 0, 0)), (426, .getfield 66, 3, 0, (12, 21, 16, 2, 15, 0)), (429, .iload 5, 2, 0, (0, 0, 0, 0, 0, 0)), (431, .iaload, 1, 0, (13, 44, 0, 0, 0, 0)), (432, .iload 7, 2, 0, (0, 0, 0, 0, 0, 0)), (434, .iload 10, 2, 0, (0, 0, 0, 0, 0, 0)), (436, .invokevirtual 269, 3, 0, (5, 6, 0, 0, 1, 0)), (439, .aload_n 0, 1, 0, (0, 0, 0, 0, 0, 0)), (440, .iload_n 2, 1, 0, (0, 0, 0, 0, 0, 0)), (441, .iload 10, 2, 0, (0, 0, 0, 0, 0, 0)), (443, .invokevirtual 344, 3, 0, (6, 3, 0, 0, 1, 0)), (446, .aload_n 0, 1, 0, (0, 0, 0, 0, 0, 0)), (447, .iload_n 3, 1, 0, (0, 0, 0, 0, 0, 0)), (448, .iload 10, 2, 0, (0, 0, 0, 0, 0, 0)), (450, .invokevirtual 344, 3, 0, (6, 3, 0, 0, 1, 0)), (453, .aload_n 0, 1, 0, (0, 0, 0, 0, 0, 0)), (454, .iload 4, 2, 0, (0, 0, 0, 0, 0, 0)), (456, .iload 10, 2, 0, (0, 0, 0, 0, 0, 0)), (458, .invokevirtual 344, 3, 0, (6, 3, 0, 0, 1, 0)), (461, .aload_n 0, 1, 0, (0, 0, 0, 0, 0, 0)), (462, .iload 5, 2, 0, (0, 0, 0, 0, 0, 0)), (464, .iload 10, 2, 0, (0, 0, 0, 0, 0, 0)), (466, .invokevirtual 344, 3, 0, (6, 3, 0, 0, 1, 0)), (469, .aload_n 0, 1, 0, (0, 0, 0, 0, 0, 0)), (470, .iload_n 2, 1, 0, (0, 0, 0, 0, 0, 0)), (471, .invokevirtual 277, 3, 0, (7, 2, 0, 0, 1, 0)), (474, .aload_n 0, 1, 0, (0, 0, 0, 0, 0, 0)), (475, .iload_n 3, 1, 0, (0, 0, 0, 0, 0, 0)), (476, .invokevirtual 277, 3, 0, (7, 2, 0, 0, 1, 0)), (479, .aload_n 0, 1, 0, (0, 0, 0, 0, 0, 0)), (480, .iload 4, 2, 0, (0, 0, 0, 0, 0, 0)), (482, .invokevirtual 277, 3, 0, (7, 2, 0, 0, 1, 0)), (485, .aload_n 0, 1, 0, (0, 0, 0, 0, 0, 0)), (486, .iload 5, 2, 0, (0, 0, 0, 0, 0, 0)), (488, .invokevirtual 277, 3, 0, (7, 2, 0, 0, 1, 0)), (491, .iconst 1, 1, 0, (0, 0, 0, 0, 0, 1)), (492, .ireturn, 1, 0, (1, 0, 0, 0, 0, 0))]
set_option maxRecDepth 100000 in
theorem rk263 : R263.all (rok 2 263 1 [(259, [15, 0, 0]), (218, [15, 0]), (260, [15, 0, 0, 0, 0]), (226, [15, 0]), (244, [15, 0, 0]), (233, [15, 0, 0, 0, 0, 0]), (261, [15, 0, 0]), (237, [15, 0])]) = true := by decide +kernel
set_option maxRecDepth 100000 in
theorem tab263 {F259 : PM → Int32 → Int32 → Int32} {G259 : PM → Int32 → Int32 → Prop} {F218 : PM → Int32 → Int32} {G218 : PM → Int32 → Prop} {F260 : PM → Int32 → Int32 → Int32 → Int32 → Int32} {G260 : PM → Int32 → Int32 → Int32 → Int32 → Prop} {F226 : PM → Int32 → Int32} {G226 : PM → Int32 → Prop} {F244 : PM → Int32 → Int32 → Int32} {G244 : PM → Int32 → Int32 → Prop} {F233 : PM → Int32 → Int32 → Int32 → Int32 → Int32 → PM} {G233 : PM → Int32 → Int32 → Int32 → Int32 → Int32 → Prop} {F261 : PM → Int32 → Int32 → PM} {G261 : PM → Int32 → Int32 → Prop} {F237 : PM → Int32 → PM} {G237 : PM → Int32 → Prop} : TabOK 2 263 1 [CC259 F259 G259, CC218 F218 G218, CC260 F260 G260, CC226 F226 G226, CC244 F244 G244, CC233 F233 G233, CC261 F261 G261, CC237 F237 G237] R263 := tab_ok (K := K263) rfl rfl (fun h => d263 h) rk263 (by decide +kernel)
set_option maxRecDepth 100000 in
theorem pc263 : cutpc [25, 64, 154, 248, 316, 364] R263 = true := by decide +kernel
set_option maxRecDepth 100000 in
theorem r12_chains_64 (F259 : PM → Int32 → Int32 → Int32) (G259 : PM → Int32 → Int32 → Prop) (o259 : CalOK 2 (CC259 F259 G259)) (F218 : PM → Int32 → Int32) (G218 : PM → Int32 → Prop) (o218 : CalOK 2 (CC218 F218 G218)) (F260 : PM → Int32 → Int32 → Int32 → Int32 → Int32) (G260 : PM → Int32 → Int32 → Int32 → Int32 → Prop) (o260 : CalOK 2 (CC260 F260 G260)) (F226 : PM → Int32 → Int32) (G226 : PM → Int32 → Prop) (o226 : CalOK 2 (CC226 F226 G226)) (F244 : PM → Int32 → Int32 → Int32) (G244 : PM → Int32 → Int32 → Prop) (o244 : CalOK 2 (CC244 F244 G244)) (F233 : PM → Int32 → Int32 → Int32 → Int32 → Int32 → PM) (G233 : PM → Int32 → Int32 → Int32 → Int32 → Int32 → Prop) (o233 : CalOK 2 (CC233 F233 G233)) (F261 : PM → Int32 → Int32 → PM) (G261 : PM → Int32 → Int32 → Prop) (o261 : CalOK 2 (CC261 F261 G261)) (F237 : PM → Int32 → PM) (G237 : PM → Int32 → Prop) (o237 : CalOK 2 (CC237 F237 G237)) : ∀ (p : PM) (d0 d1 d2 d3 d4 d5 d6 d7 d8 d9 d10 : ZV), Gr 2 p → bg12_chains_64 p → ZJ 2 263 64 [d0, d1, d2, d3, d4, d5, d6, d7, d8, d9, d10] [] p (hwI (bv12_chains_64 p)) := by
  intro p  d0 d1 d2 d3 d4 d5 d6 d7 d8 d9 d10 hg H
  exact rwI (n := 3000) (q := 64) (la := [d0, d1, d2, d3, d4, d5, d6, d7, d8, d9, d10]) (sa := []) (ks := [fun _ _ s => (0, s), fun _ _ s => (0, s), fun _ _ s => (0, s), fun _ _ s => (0, s), fun _ _ s => (0, s), fun _ _ s => (0, s)]) (gs := [fun _ _ _ => False, fun _ _ _ => False, fun _ _ _ => False, fun _ _ _ => False, fun _ _ _ => False, fun _ _ _ => False]) (fcons o259 (fcons o218 (fcons o260 (fcons o226 (fcons o244 (fcons o233 (fcons o261 (fcons o237 (fnil))))))))) tab263 pc263 ⟨fun _ _ _ _ H => H.elim, fun _ _ _ _ H => H.elim, fun _ _ _ _ H => H.elim, fun _ _ _ _ H => H.elim, fun _ _ _ _ H => H.elim, fun _ _ _ _ H => H.elim, trivial⟩ hg H
theorem t12_chains_64 : ∀ (p : PM) (d0 d1 d2 d3 d4 d5 d6 d7 d8 d9 d10 : ZV), Gr 2 p → g12_chains_64 p → ZJ 2 263 64 [d0, d1, d2, d3, d4, d5, d6, d7, d8, d9, d10] [] p (hwI (v12_chains_64 p)) := r12_chains_64 v12_firstOf g12_firstOf ok259 v12_isOpen g12_isOpen ok218 v12_canDeal g12_canDeal ok260 v12_showsNow g12_showsNow ok226 v12_least g12_least ok244 v12_deals g12_deals ok233 v12_falls1 g12_falls1 ok261 v12_guards g12_guards ok237
set_option maxRecDepth 100000 in
theorem r12_chains_248 (F259 : PM → Int32 → Int32 → Int32) (G259 : PM → Int32 → Int32 → Prop) (o259 : CalOK 2 (CC259 F259 G259)) (F218 : PM → Int32 → Int32) (G218 : PM → Int32 → Prop) (o218 : CalOK 2 (CC218 F218 G218)) (F260 : PM → Int32 → Int32 → Int32 → Int32 → Int32) (G260 : PM → Int32 → Int32 → Int32 → Int32 → Prop) (o260 : CalOK 2 (CC260 F260 G260)) (F226 : PM → Int32 → Int32) (G226 : PM → Int32 → Prop) (o226 : CalOK 2 (CC226 F226 G226)) (F244 : PM → Int32 → Int32 → Int32) (G244 : PM → Int32 → Int32 → Prop) (o244 : CalOK 2 (CC244 F244 G244)) (F233 : PM → Int32 → Int32 → Int32 → Int32 → Int32 → PM) (G233 : PM → Int32 → Int32 → Int32 → Int32 → Int32 → Prop) (o233 : CalOK 2 (CC233 F233 G233)) (F261 : PM → Int32 → Int32 → PM) (G261 : PM → Int32 → Int32 → Prop) (o261 : CalOK 2 (CC261 F261 G261)) (F237 : PM → Int32 → PM) (G237 : PM → Int32 → Prop) (o237 : CalOK 2 (CC237 F237 G237)) : ∀ (p : PM) (v1 : Int32) (v2 : Int32) (v3 : Int32) (v4 : Int32) (v5 : Int32) (v6 : Int32) (v7 : Int32) (v8 : Int32) (d9 d10 : ZV), Gr 2 p → bg12_chains_248 p v1 v2 v3 v4 v5 v6 v7 v8 → ZJ 2 263 248 [zR 12 1, zI v1, zI v2, zI v3, zI v4, zI v5, zI v6, zI v7, zI v8, d9, d10] [] p (hwI (bv12_chains_248 p v1 v2 v3 v4 v5 v6 v7 v8)) := by
  intro p v1 v2 v3 v4 v5 v6 v7 v8 d9 d10 hg H
  exact rwI (n := 3000) (q := 248) (la := [zR 12 1, zI v1, zI v2, zI v3, zI v4, zI v5, zI v6, zI v7, zI v8, d9, d10]) (sa := []) (ks := [fun _ _ s => (0, s), fun _ _ s => (0, s), fun _ _ s => (0, s), fun _ _ s => (0, s), fun _ _ s => (0, s), fun _ _ s => (0, s)]) (gs := [fun _ _ _ => False, fun _ _ _ => False, fun _ _ _ => False, fun _ _ _ => False, fun _ _ _ => False, fun _ _ _ => False]) (fcons o259 (fcons o218 (fcons o260 (fcons o226 (fcons o244 (fcons o233 (fcons o261 (fcons o237 (fnil))))))))) tab263 pc263 ⟨fun _ _ _ _ H => H.elim, fun _ _ _ _ H => H.elim, fun _ _ _ _ H => H.elim, fun _ _ _ _ H => H.elim, fun _ _ _ _ H => H.elim, fun _ _ _ _ H => H.elim, trivial⟩ hg H
theorem t12_chains_248 : ∀ (p : PM) (v1 : Int32) (v2 : Int32) (v3 : Int32) (v4 : Int32) (v5 : Int32) (v6 : Int32) (v7 : Int32) (v8 : Int32) (d9 d10 : ZV), Gr 2 p → g12_chains_248 p v1 v2 v3 v4 v5 v6 v7 v8 → ZJ 2 263 248 [zR 12 1, zI v1, zI v2, zI v3, zI v4, zI v5, zI v6, zI v7, zI v8, d9, d10] [] p (hwI (v12_chains_248 p v1 v2 v3 v4 v5 v6 v7 v8)) := r12_chains_248 v12_firstOf g12_firstOf ok259 v12_isOpen g12_isOpen ok218 v12_canDeal g12_canDeal ok260 v12_showsNow g12_showsNow ok226 v12_least g12_least ok244 v12_deals g12_deals ok233 v12_falls1 g12_falls1 ok261 v12_guards g12_guards ok237
set_option maxRecDepth 100000 in
theorem r12_chains_364 (F259 : PM → Int32 → Int32 → Int32) (G259 : PM → Int32 → Int32 → Prop) (o259 : CalOK 2 (CC259 F259 G259)) (F218 : PM → Int32 → Int32) (G218 : PM → Int32 → Prop) (o218 : CalOK 2 (CC218 F218 G218)) (F260 : PM → Int32 → Int32 → Int32 → Int32 → Int32) (G260 : PM → Int32 → Int32 → Int32 → Int32 → Prop) (o260 : CalOK 2 (CC260 F260 G260)) (F226 : PM → Int32 → Int32) (G226 : PM → Int32 → Prop) (o226 : CalOK 2 (CC226 F226 G226)) (F244 : PM → Int32 → Int32 → Int32) (G244 : PM → Int32 → Int32 → Prop) (o244 : CalOK 2 (CC244 F244 G244)) (F233 : PM → Int32 → Int32 → Int32 → Int32 → Int32 → PM) (G233 : PM → Int32 → Int32 → Int32 → Int32 → Int32 → Prop) (o233 : CalOK 2 (CC233 F233 G233)) (F261 : PM → Int32 → Int32 → PM) (G261 : PM → Int32 → Int32 → Prop) (o261 : CalOK 2 (CC261 F261 G261)) (F237 : PM → Int32 → PM) (G237 : PM → Int32 → Prop) (o237 : CalOK 2 (CC237 F237 G237)) : ∀ (p : PM) (v1 : Int32) (v2 : Int32) (v3 : Int32) (v4 : Int32) (v5 : Int32) (v7 : Int32) (v8 : Int32) (v10 : Int32) (s0 : Int32) (d6 d9 : ZV), Gr 2 p → bg12_chains_364 F233 G233 F237 G237 F261 G261 p v1 v2 v3 v4 v5 v7 v8 v10 s0 → ZJ 2 263 364 [zR 12 1, zI v1, zI v2, zI v3, zI v4, zI v5, d6, zI v7, zI v8, d9, zI v10] [zI s0, zC 1, zR 12 1] p (hwI (bv12_chains_364 F233 F237 F261 p v1 v2 v3 v4 v5 v7 v8 v10 s0)) := by
  intro p v1 v2 v3 v4 v5 v7 v8 v10 s0 d6 d9 hg H
  exact rwI (n := 3000) (q := 364) (la := [zR 12 1, zI v1, zI v2, zI v3, zI v4, zI v5, d6, zI v7, zI v8, d9, zI v10]) (sa := [zI s0, zC 1, zR 12 1]) (ks := [fun _ _ s => (0, s), fun _ _ s => (0, s), fun _ _ s => (0, s), fun _ _ s => (0, s), fun _ _ s => (0, s), fun _ _ s => (0, s)]) (gs := [fun _ _ _ => False, fun _ _ _ => False, fun _ _ _ => False, fun _ _ _ => False, fun _ _ _ => False, fun _ _ _ => False]) (fcons o259 (fcons o218 (fcons o260 (fcons o226 (fcons o244 (fcons o233 (fcons o261 (fcons o237 (fnil))))))))) tab263 pc263 ⟨fun _ _ _ _ H => H.elim, fun _ _ _ _ H => H.elim, fun _ _ _ _ H => H.elim, fun _ _ _ _ H => H.elim, fun _ _ _ _ H => H.elim, fun _ _ _ _ H => H.elim, trivial⟩ hg H
theorem t12_chains_364 : ∀ (p : PM) (v1 : Int32) (v2 : Int32) (v3 : Int32) (v4 : Int32) (v5 : Int32) (v7 : Int32) (v8 : Int32) (v10 : Int32) (s0 : Int32) (d6 d9 : ZV), Gr 2 p → g12_chains_364 p v1 v2 v3 v4 v5 v7 v8 v10 s0 → ZJ 2 263 364 [zR 12 1, zI v1, zI v2, zI v3, zI v4, zI v5, d6, zI v7, zI v8, d9, zI v10] [zI s0, zC 1, zR 12 1] p (hwI (v12_chains_364 p v1 v2 v3 v4 v5 v7 v8 v10 s0)) := r12_chains_364 v12_firstOf g12_firstOf ok259 v12_isOpen g12_isOpen ok218 v12_canDeal g12_canDeal ok260 v12_showsNow g12_showsNow ok226 v12_least g12_least ok244 v12_deals g12_deals ok233 v12_falls1 g12_falls1 ok261 v12_guards g12_guards ok237
set_option maxRecDepth 100000 in
theorem r12_chains_316 (F259 : PM → Int32 → Int32 → Int32) (G259 : PM → Int32 → Int32 → Prop) (o259 : CalOK 2 (CC259 F259 G259)) (F218 : PM → Int32 → Int32) (G218 : PM → Int32 → Prop) (o218 : CalOK 2 (CC218 F218 G218)) (F260 : PM → Int32 → Int32 → Int32 → Int32 → Int32) (G260 : PM → Int32 → Int32 → Int32 → Int32 → Prop) (o260 : CalOK 2 (CC260 F260 G260)) (F226 : PM → Int32 → Int32) (G226 : PM → Int32 → Prop) (o226 : CalOK 2 (CC226 F226 G226)) (F244 : PM → Int32 → Int32 → Int32) (G244 : PM → Int32 → Int32 → Prop) (o244 : CalOK 2 (CC244 F244 G244)) (F233 : PM → Int32 → Int32 → Int32 → Int32 → Int32 → PM) (G233 : PM → Int32 → Int32 → Int32 → Int32 → Int32 → Prop) (o233 : CalOK 2 (CC233 F233 G233)) (F261 : PM → Int32 → Int32 → PM) (G261 : PM → Int32 → Int32 → Prop) (o261 : CalOK 2 (CC261 F261 G261)) (F237 : PM → Int32 → PM) (G237 : PM → Int32 → Prop) (o237 : CalOK 2 (CC237 F237 G237)) (kv364 : PM → Int32 → Int32 → Int32 → Int32 → Int32 → Int32 → Int32 → Int32 → Int32 → Int32 × PM) (kg364 : PM → Int32 → Int32 → Int32 → Int32 → Int32 → Int32 → Int32 → Int32 → Int32 → Prop) (hk364 : ∀ (p : PM) (v1 : Int32) (v2 : Int32) (v3 : Int32) (v4 : Int32) (v5 : Int32) (v7 : Int32) (v8 : Int32) (v10 : Int32) (s0 : Int32) (d6 d9 : ZV), Gr 2 p → kg364 p v1 v2 v3 v4 v5 v7 v8 v10 s0 → ZJ 2 263 364 [zR 12 1, zI v1, zI v2, zI v3, zI v4, zI v5, d6, zI v7, zI v8, d9, zI v10] [zI s0, zC 1, zR 12 1] p (hwI (kv364 p v1 v2 v3 v4 v5 v7 v8 v10 s0))) : ∀ (p : PM) (v1 : Int32) (v2 : Int32) (v3 : Int32) (v4 : Int32) (v5 : Int32) (v6 : Int32) (v7 : Int32) (v8 : Int32) (v10 : Int32) (s0 : Int32) (d9 : ZV), Gr 2 p → bg12_chains_316 F233 G233 kg364 p v1 v2 v3 v4 v5 v6 v7 v8 v10 s0 → ZJ 2 263 316 [zR 12 1, zI v1, zI v2, zI v3, zI v4, zI v5, zI v6, zI v7, zI v8, d9, zI v10] [zI s0, zC 0, zR 12 1] p (hwI (bv12_chains_316 F233 kv364 p v1 v2 v3 v4 v5 v6 v7 v8 v10 s0)) := by
  intro p v1 v2 v3 v4 v5 v6 v7 v8 v10 s0 d9 hg H
  exact rwI (n := 3000) (q := 316) (la := [zR 12 1, zI v1, zI v2, zI v3, zI v4, zI v5, zI v6, zI v7, zI v8, d9, zI v10]) (sa := [zI s0, zC 0, zR 12 1]) (ks := [fun _ _ s => (0, s), fun _ _ s => (0, s), fun _ _ s => (0, s), fun _ _ s => (0, s), fun _ _ s => (0, s), fun la sa s => kv364 s (ai la 1) (ai la 2) (ai la 3) (ai la 4) (ai la 5) (ai la 7) (ai la 8) (ai la 10) (ai sa 0)]) (gs := [fun _ _ _ => False, fun _ _ _ => False, fun _ _ _ => False, fun _ _ _ => False, fun _ _ _ => False, fun la sa s => zsw (tc2 la [(112, 1), (0, 0), (0, 0), (0, 0), (0, 0), (0, 0), (2, 0), (0, 0), (0, 0), (2, 0), (0, 0)] && tc2 sa [(0, 0), (3, 1), (112, 1)]) False (kg364 s (ai la 1) (ai la 2) (ai la 3) (ai la 4) (ai la 5) (ai la 7) (ai la 8) (ai la 10) (ai sa 0))]) (fcons o259 (fcons o218 (fcons o260 (fcons o226 (fcons o244 (fcons o233 (fcons o261 (fcons o237 (fnil))))))))) tab263 pc263 ⟨fun _ _ _ _ H => H.elim, fun _ _ _ _ H => H.elim, fun _ _ _ _ H => H.elim, fun _ _ _ _ H => H.elim, fun _ _ _ _ H => H.elim, fun la sa s hg H => zcut H fun H => hk364 s (ai la 1) (ai la 2) (ai la 3) (ai la 4) (ai la 5) (ai la 7) (ai la 8) (ai la 10) (ai sa 0) (zld la 6) (zld la 9) hg H, trivial⟩ hg H
theorem t12_chains_316 : ∀ (p : PM) (v1 : Int32) (v2 : Int32) (v3 : Int32) (v4 : Int32) (v5 : Int32) (v6 : Int32) (v7 : Int32) (v8 : Int32) (v10 : Int32) (s0 : Int32) (d9 : ZV), Gr 2 p → g12_chains_316 p v1 v2 v3 v4 v5 v6 v7 v8 v10 s0 → ZJ 2 263 316 [zR 12 1, zI v1, zI v2, zI v3, zI v4, zI v5, zI v6, zI v7, zI v8, d9, zI v10] [zI s0, zC 0, zR 12 1] p (hwI (v12_chains_316 p v1 v2 v3 v4 v5 v6 v7 v8 v10 s0)) := r12_chains_316 v12_firstOf g12_firstOf ok259 v12_isOpen g12_isOpen ok218 v12_canDeal g12_canDeal ok260 v12_showsNow g12_showsNow ok226 v12_least g12_least ok244 v12_deals g12_deals ok233 v12_falls1 g12_falls1 ok261 v12_guards g12_guards ok237 (v12_chains_364) (g12_chains_364) (t12_chains_364)
set_option maxRecDepth 100000 in
theorem r12_chains_154 (F259 : PM → Int32 → Int32 → Int32) (G259 : PM → Int32 → Int32 → Prop) (o259 : CalOK 2 (CC259 F259 G259)) (F218 : PM → Int32 → Int32) (G218 : PM → Int32 → Prop) (o218 : CalOK 2 (CC218 F218 G218)) (F260 : PM → Int32 → Int32 → Int32 → Int32 → Int32) (G260 : PM → Int32 → Int32 → Int32 → Int32 → Prop) (o260 : CalOK 2 (CC260 F260 G260)) (F226 : PM → Int32 → Int32) (G226 : PM → Int32 → Prop) (o226 : CalOK 2 (CC226 F226 G226)) (F244 : PM → Int32 → Int32 → Int32) (G244 : PM → Int32 → Int32 → Prop) (o244 : CalOK 2 (CC244 F244 G244)) (F233 : PM → Int32 → Int32 → Int32 → Int32 → Int32 → PM) (G233 : PM → Int32 → Int32 → Int32 → Int32 → Int32 → Prop) (o233 : CalOK 2 (CC233 F233 G233)) (F261 : PM → Int32 → Int32 → PM) (G261 : PM → Int32 → Int32 → Prop) (o261 : CalOK 2 (CC261 F261 G261)) (F237 : PM → Int32 → PM) (G237 : PM → Int32 → Prop) (o237 : CalOK 2 (CC237 F237 G237)) (kv248 : PM → Int32 → Int32 → Int32 → Int32 → Int32 → Int32 → Int32 → Int32 → Int32 × PM) (kg248 : PM → Int32 → Int32 → Int32 → Int32 → Int32 → Int32 → Int32 → Int32 → Prop) (hk248 : ∀ (p : PM) (v1 : Int32) (v2 : Int32) (v3 : Int32) (v4 : Int32) (v5 : Int32) (v6 : Int32) (v7 : Int32) (v8 : Int32) (d9 d10 : ZV), Gr 2 p → kg248 p v1 v2 v3 v4 v5 v6 v7 v8 → ZJ 2 263 248 [zR 12 1, zI v1, zI v2, zI v3, zI v4, zI v5, zI v6, zI v7, zI v8, d9, d10] [] p (hwI (kv248 p v1 v2 v3 v4 v5 v6 v7 v8))) (kv316 : PM → Int32 → Int32 → Int32 → Int32 → Int32 → Int32 → Int32 → Int32 → Int32 → Int32 → Int32 × PM) (kg316 : PM → Int32 → Int32 → Int32 → Int32 → Int32 → Int32 → Int32 → Int32 → Int32 → Int32 → Prop) (hk316 : ∀ (p : PM) (v1 : Int32) (v2 : Int32) (v3 : Int32) (v4 : Int32) (v5 : Int32) (v6 : Int32) (v7 : Int32) (v8 : Int32) (v10 : Int32) (s0 : Int32) (d9 : ZV), Gr 2 p → kg316 p v1 v2 v3 v4 v5 v6 v7 v8 v10 s0 → ZJ 2 263 316 [zR 12 1, zI v1, zI v2, zI v3, zI v4, zI v5, zI v6, zI v7, zI v8, d9, zI v10] [zI s0, zC 0, zR 12 1] p (hwI (kv316 p v1 v2 v3 v4 v5 v6 v7 v8 v10 s0))) : ∀ (p : PM) (v1 : Int32) (v2 : Int32) (v3 : Int32) (v4 : Int32) (v5 : Int32) (v6 : Int32) (v7 : Int32) (v8 : Int32) (s0 : Int32) (d9 d10 : ZV), Gr 2 p → bg12_chains_154 F226 G226 F244 G244 F260 G260 kg248 kg316 p v1 v2 v3 v4 v5 v6 v7 v8 s0 → ZJ 2 263 154 [zR 12 1, zI v1, zI v2, zI v3, zI v4, zI v5, zI v6, zI v7, zI v8, d9, d10] [zI s0] p (hwI (bv12_chains_154 F226 F244 F260 kv248 kv316 p v1 v2 v3 v4 v5 v6 v7 v8 s0)) := by
  intro p v1 v2 v3 v4 v5 v6 v7 v8 s0 d9 d10 hg H
  exact rwI (n := 3000) (q := 154) (la := [zR 12 1, zI v1, zI v2, zI v3, zI v4, zI v5, zI v6, zI v7, zI v8, d9, d10]) (sa := [zI s0]) (ks := [fun _ _ s => (0, s), fun _ _ s => (0, s), fun _ _ s => (0, s), fun la sa s => kv248 s (ai la 1) (ai la 2) (ai la 3) (ai la 4) (ai la 5) (ai la 6) (ai la 7) (ai la 8), fun la sa s => kv316 s (ai la 1) (ai la 2) (ai la 3) (ai la 4) (ai la 5) (ai la 6) (ai la 7) (ai la 8) (ai la 10) (ai sa 0), fun _ _ s => (0, s)]) (gs := [fun _ _ _ => False, fun _ _ _ => False, fun _ _ _ => False, fun la sa s => zsw (tc2 la [(112, 1), (0, 0), (0, 0), (0, 0), (0, 0), (0, 0), (0, 0), (0, 0), (0, 0), (2, 0), (2, 0)] && tc2 sa []) False (kg248 s (ai la 1) (ai la 2) (ai la 3) (ai la 4) (ai la 5) (ai la 6) (ai la 7) (ai la 8)), fun la sa s => zsw (tc2 la [(112, 1), (0, 0), (0, 0), (0, 0), (0, 0), (0, 0), (0, 0), (0, 0), (0, 0), (2, 0), (0, 0)] && tc2 sa [(0, 0), (3, 0), (112, 1)]) False (kg316 s (ai la 1) (ai la 2) (ai la 3) (ai la 4) (ai la 5) (ai la 6) (ai la 7) (ai la 8) (ai la 10) (ai sa 0)), fun _ _ _ => False]) (fcons o259 (fcons o218 (fcons o260 (fcons o226 (fcons o244 (fcons o233 (fcons o261 (fcons o237 (fnil))))))))) tab263 pc263 ⟨fun _ _ _ _ H => H.elim, fun _ _ _ _ H => H.elim, fun _ _ _ _ H => H.elim, fun la sa s hg H => zcut H fun H => hk248 s (ai la 1) (ai la 2) (ai la 3) (ai la 4) (ai la 5) (ai la 6) (ai la 7) (ai la 8) (zld la 9) (zld la 10) hg H, fun la sa s hg H => zcut H fun H => hk316 s (ai la 1) (ai la 2) (ai la 3) (ai la 4) (ai la 5) (ai la 6) (ai la 7) (ai la 8) (ai la 10) (ai sa 0) (zld la 9) hg H, fun _ _ _ _ H => H.elim, trivial⟩ hg H
theorem t12_chains_154 : ∀ (p : PM) (v1 : Int32) (v2 : Int32) (v3 : Int32) (v4 : Int32) (v5 : Int32) (v6 : Int32) (v7 : Int32) (v8 : Int32) (s0 : Int32) (d9 d10 : ZV), Gr 2 p → g12_chains_154 p v1 v2 v3 v4 v5 v6 v7 v8 s0 → ZJ 2 263 154 [zR 12 1, zI v1, zI v2, zI v3, zI v4, zI v5, zI v6, zI v7, zI v8, d9, d10] [zI s0] p (hwI (v12_chains_154 p v1 v2 v3 v4 v5 v6 v7 v8 s0)) := r12_chains_154 v12_firstOf g12_firstOf ok259 v12_isOpen g12_isOpen ok218 v12_canDeal g12_canDeal ok260 v12_showsNow g12_showsNow ok226 v12_least g12_least ok244 v12_deals g12_deals ok233 v12_falls1 g12_falls1 ok261 v12_guards g12_guards ok237 (v12_chains_248) (g12_chains_248) (t12_chains_248) (v12_chains_316) (g12_chains_316) (t12_chains_316)
set_option maxRecDepth 100000 in
theorem r12_chains_25 (F259 : PM → Int32 → Int32 → Int32) (G259 : PM → Int32 → Int32 → Prop) (o259 : CalOK 2 (CC259 F259 G259)) (F218 : PM → Int32 → Int32) (G218 : PM → Int32 → Prop) (o218 : CalOK 2 (CC218 F218 G218)) (F260 : PM → Int32 → Int32 → Int32 → Int32 → Int32) (G260 : PM → Int32 → Int32 → Int32 → Int32 → Prop) (o260 : CalOK 2 (CC260 F260 G260)) (F226 : PM → Int32 → Int32) (G226 : PM → Int32 → Prop) (o226 : CalOK 2 (CC226 F226 G226)) (F244 : PM → Int32 → Int32 → Int32) (G244 : PM → Int32 → Int32 → Prop) (o244 : CalOK 2 (CC244 F244 G244)) (F233 : PM → Int32 → Int32 → Int32 → Int32 → Int32 → PM) (G233 : PM → Int32 → Int32 → Int32 → Int32 → Int32 → Prop) (o233 : CalOK 2 (CC233 F233 G233)) (F261 : PM → Int32 → Int32 → PM) (G261 : PM → Int32 → Int32 → Prop) (o261 : CalOK 2 (CC261 F261 G261)) (F237 : PM → Int32 → PM) (G237 : PM → Int32 → Prop) (o237 : CalOK 2 (CC237 F237 G237)) (kv64 : PM → Int32 × PM) (kg64 : PM → Prop) (hk64 : ∀ (p : PM) (d0 d1 d2 d3 d4 d5 d6 d7 d8 d9 d10 : ZV), Gr 2 p → kg64 p  → ZJ 2 263 64 [d0, d1, d2, d3, d4, d5, d6, d7, d8, d9, d10] [] p (hwI (kv64 p ))) (kv154 : PM → Int32 → Int32 → Int32 → Int32 → Int32 → Int32 → Int32 → Int32 → Int32 → Int32 × PM) (kg154 : PM → Int32 → Int32 → Int32 → Int32 → Int32 → Int32 → Int32 → Int32 → Int32 → Prop) (hk154 : ∀ (p : PM) (v1 : Int32) (v2 : Int32) (v3 : Int32) (v4 : Int32) (v5 : Int32) (v6 : Int32) (v7 : Int32) (v8 : Int32) (s0 : Int32) (d9 d10 : ZV), Gr 2 p → kg154 p v1 v2 v3 v4 v5 v6 v7 v8 s0 → ZJ 2 263 154 [zR 12 1, zI v1, zI v2, zI v3, zI v4, zI v5, zI v6, zI v7, zI v8, d9, d10] [zI s0] p (hwI (kv154 p v1 v2 v3 v4 v5 v6 v7 v8 s0))) : ∀ (p : PM) (v1 : Int32) (v2 : Int32) (v3 : Int32) (s0 : Int32) (d4 d5 d6 d7 d8 d9 d10 : ZV), Gr 2 p → bg12_chains_25 F218 G218 F259 G259 kg64 kg154 p v1 v2 v3 s0 → ZJ 2 263 25 [zR 12 1, zI v1, zI v2, zI v3, d4, d5, d6, d7, d8, d9, d10] [zI s0, zC 0, zR 12 1] p (hwI (bv12_chains_25 F218 F259 kv64 kv154 p v1 v2 v3 s0)) := by
  intro p v1 v2 v3 s0 d4 d5 d6 d7 d8 d9 d10 hg H
  exact rwI (n := 3000) (q := 25) (la := [zR 12 1, zI v1, zI v2, zI v3, d4, d5, d6, d7, d8, d9, d10]) (sa := [zI s0, zC 0, zR 12 1]) (ks := [fun _ _ s => (0, s), fun la sa s => kv64 s, fun la sa s => kv154 s (ai la 1) (ai la 2) (ai la 3) (ai la 4) (ai la 5) (ai la 6) (ai la 7) (ai la 8) (ai sa 0), fun _ _ s => (0, s), fun _ _ s => (0, s), fun _ _ s => (0, s)]) (gs := [fun _ _ _ => False, fun la sa s => zsw (tc2 la [(2, 0), (2, 0), (2, 0), (2, 0), (2, 0), (2, 0), (2, 0), (2, 0), (2, 0), (2, 0), (2, 0)] && tc2 sa []) False (kg64 s ), fun la sa s => zsw (tc2 la [(112, 1), (0, 0), (0, 0), (0, 0), (0, 0), (0, 0), (0, 0), (0, 0), (0, 0), (2, 0), (2, 0)] && tc2 sa [(0, 0)]) False (kg154 s (ai la 1) (ai la 2) (ai la 3) (ai la 4) (ai la 5) (ai la 6) (ai la 7) (ai la 8) (ai sa 0)), fun _ _ _ => False, fun _ _ _ => False, fun _ _ _ => False]) (fcons o259 (fcons o218 (fcons o260 (fcons o226 (fcons o244 (fcons o233 (fcons o261 (fcons o237 (fnil))))))))) tab263 pc263 ⟨fun _ _ _ _ H => H.elim, fun la sa s hg H => zcut H fun H => hk64 s (zld la 0) (zld la 1) (zld la 2) (zld la 3) (zld la 4) (zld la 5) (zld la 6) (zld la 7) (zld la 8) (zld la 9) (zld la 10) hg H, fun la sa s hg H => zcut H fun H => hk154 s (ai la 1) (ai la 2) (ai la 3) (ai la 4) (ai la 5) (ai la 6) (ai la 7) (ai la 8) (ai sa 0) (zld la 9) (zld la 10) hg H, fun _ _ _ _ H => H.elim, fun _ _ _ _ H => H.elim, fun _ _ _ _ H => H.elim, trivial⟩ hg H
theorem t12_chains_25 : ∀ (p : PM) (v1 : Int32) (v2 : Int32) (v3 : Int32) (s0 : Int32) (d4 d5 d6 d7 d8 d9 d10 : ZV), Gr 2 p → g12_chains_25 p v1 v2 v3 s0 → ZJ 2 263 25 [zR 12 1, zI v1, zI v2, zI v3, d4, d5, d6, d7, d8, d9, d10] [zI s0, zC 0, zR 12 1] p (hwI (v12_chains_25 p v1 v2 v3 s0)) := r12_chains_25 v12_firstOf g12_firstOf ok259 v12_isOpen g12_isOpen ok218 v12_canDeal g12_canDeal ok260 v12_showsNow g12_showsNow ok226 v12_least g12_least ok244 v12_deals g12_deals ok233 v12_falls1 g12_falls1 ok261 v12_guards g12_guards ok237 (v12_chains_64) (g12_chains_64) (t12_chains_64) (v12_chains_154) (g12_chains_154) (t12_chains_154)
set_option maxRecDepth 100000 in
theorem r12_chains (F259 : PM → Int32 → Int32 → Int32) (G259 : PM → Int32 → Int32 → Prop) (o259 : CalOK 2 (CC259 F259 G259)) (F218 : PM → Int32 → Int32) (G218 : PM → Int32 → Prop) (o218 : CalOK 2 (CC218 F218 G218)) (F260 : PM → Int32 → Int32 → Int32 → Int32 → Int32) (G260 : PM → Int32 → Int32 → Int32 → Int32 → Prop) (o260 : CalOK 2 (CC260 F260 G260)) (F226 : PM → Int32 → Int32) (G226 : PM → Int32 → Prop) (o226 : CalOK 2 (CC226 F226 G226)) (F244 : PM → Int32 → Int32 → Int32) (G244 : PM → Int32 → Int32 → Prop) (o244 : CalOK 2 (CC244 F244 G244)) (F233 : PM → Int32 → Int32 → Int32 → Int32 → Int32 → PM) (G233 : PM → Int32 → Int32 → Int32 → Int32 → Int32 → Prop) (o233 : CalOK 2 (CC233 F233 G233)) (F261 : PM → Int32 → Int32 → PM) (G261 : PM → Int32 → Int32 → Prop) (o261 : CalOK 2 (CC261 F261 G261)) (F237 : PM → Int32 → PM) (G237 : PM → Int32 → Prop) (o237 : CalOK 2 (CC237 F237 G237)) (kv25 : PM → Int32 → Int32 → Int32 → Int32 → Int32 × PM) (kg25 : PM → Int32 → Int32 → Int32 → Int32 → Prop) (hk25 : ∀ (p : PM) (v1 : Int32) (v2 : Int32) (v3 : Int32) (s0 : Int32) (d4 d5 d6 d7 d8 d9 d10 : ZV), Gr 2 p → kg25 p v1 v2 v3 s0 → ZJ 2 263 25 [zR 12 1, zI v1, zI v2, zI v3, d4, d5, d6, d7, d8, d9, d10] [zI s0, zC 0, zR 12 1] p (hwI (kv25 p v1 v2 v3 s0))) : ∀ (p : PM) (v1 : Int32), Gr 2 p → bg12_chains F259 G259 kg25 p v1 → ZJ 2 263 0 [zR 12 1, zI v1, zJ, zJ, zJ, zJ, zJ, zJ, zJ, zJ, zJ] [] p (hwI (bv12_chains F259 kv25 p v1)) := by
  intro p v1  hg H
  exact rwI (n := 3000) (q := 0) (la := [zR 12 1, zI v1, zJ, zJ, zJ, zJ, zJ, zJ, zJ, zJ, zJ]) (sa := []) (ks := [fun la sa s => kv25 s (ai la 1) (ai la 2) (ai la 3) (ai sa 0), fun _ _ s => (0, s), fun _ _ s => (0, s), fun _ _ s => (0, s), fun _ _ s => (0, s), fun _ _ s => (0, s)]) (gs := [fun la sa s => zsw (tc2 la [(112, 1), (0, 0), (0, 0), (0, 0), (2, 0), (2, 0), (2, 0), (2, 0), (2, 0), (2, 0), (2, 0)] && tc2 sa [(0, 0), (3, 0), (112, 1)]) False (kg25 s (ai la 1) (ai la 2) (ai la 3) (ai sa 0)), fun _ _ _ => False, fun _ _ _ => False, fun _ _ _ => False, fun _ _ _ => False, fun _ _ _ => False]) (fcons o259 (fcons o218 (fcons o260 (fcons o226 (fcons o244 (fcons o233 (fcons o261 (fcons o237 (fnil))))))))) tab263 pc263 ⟨fun la sa s hg H => zcut H fun H => hk25 s (ai la 1) (ai la 2) (ai la 3) (ai sa 0) (zld la 4) (zld la 5) (zld la 6) (zld la 7) (zld la 8) (zld la 9) (zld la 10) hg H, fun _ _ _ _ H => H.elim, fun _ _ _ _ H => H.elim, fun _ _ _ _ H => H.elim, fun _ _ _ _ H => H.elim, fun _ _ _ _ H => H.elim, trivial⟩ hg H
theorem t12_chains : ∀ (p : PM) (v1 : Int32), Gr 2 p → g12_chains p v1 → ZJ 2 263 0 [zR 12 1, zI v1, zJ, zJ, zJ, zJ, zJ, zJ, zJ, zJ, zJ] [] p (hwI (v12_chains p v1)) := r12_chains v12_firstOf g12_firstOf ok259 v12_isOpen g12_isOpen ok218 v12_canDeal g12_canDeal ok260 v12_showsNow g12_showsNow ok226 v12_least g12_least ok244 v12_deals g12_deals ok233 v12_falls1 g12_falls1 ok261 v12_guards g12_guards ok237 (v12_chains_25) (g12_chains_25) (t12_chains_25)
def CC263 (F : PM → Int32 → Int32 × PM) (G : PM → Int32 → Prop) : Cal := (263, [15, 0], 1, false, fun as p => (zI (F p (ai as 1)).1, (F p (ai as 1)).2), fun as p => zsw (tc2 as [(112, 1), (0, 0)]) False (G p (ai as 1)))
set_option maxRecDepth 100000 in
theorem okr263 (F : PM → Int32 → Int32 × PM) (G : PM → Int32 → Prop) (h : ∀ (p : PM) (v1 : Int32), Gr 2 p → G p v1 → ZJ 2 263 0 [zR 12 1, zI v1, zJ, zJ, zJ, zJ, zJ, zJ, zJ, zJ, zJ] [] p (hwI (F p v1))) : CalOK 2 (CC263 F G) := cal_ok (m := 11) (by unfold mL; rw [mX_263]) (fun as p hg H => h p (ai as 1) hg H)
theorem ok263 : CalOK 2 (CC263 v12_chains g12_chains) := okr263 v12_chains g12_chains t12_chains
noncomputable def bv12_combines (F262 : PM → Int32 → Int32 → Int32 × PM) (F263 : PM → Int32 → Int32 × PM) (p : PM) : Int32 × PM :=
  let r1 : Int32 × PM := F262 p (cn 4) (cn 1)
  if r1.1 = 0 then (
    let r2 : Int32 × PM := F262 r1.2 (cn 4) (cn 0)
    if r2.1 = 0 then (
      let r3 : Int32 × PM := F262 r2.2 (cn 5) (cn 1)
      if r3.1 = 0 then (
        let r4 : Int32 × PM := F262 r3.2 (cn 5) (cn 0)
        if r4.1 = 0 then (
          let r5 : Int32 × PM := F263 r4.2 (cn 1)
          if r5.1 = 0 then (
            let r6 : Int32 × PM := F263 r5.2 (cn 0)
            if r6.1 = 0 then (
              ((cn 0), r6.2))
            else (
              ((cn 1), r6.2)))
          else (
            ((cn 1), r5.2)))
        else (
          ((cn 1), r4.2)))
      else (
        ((cn 1), r3.2)))
    else (
      ((cn 1), r2.2)))
  else (
    ((cn 1), r1.2))
noncomputable def v12_combines (p : PM) : Int32 × PM := bv12_combines v12_joins v12_chains p
noncomputable def bg12_combines (F262 : PM → Int32 → Int32 → Int32 × PM) (G262 : PM → Int32 → Int32 → Prop) (F263 : PM → Int32 → Int32 × PM) (G263 : PM → Int32 → Prop) (p : PM) : Prop :=
  (G262 p (cn 4) (cn 1)) ∧ (
  let r1 : Int32 × PM := F262 p (cn 4) (cn 1)
  if r1.1 = 0 then (
    (G262 r1.2 (cn 4) (cn 0)) ∧ (
    let r2 : Int32 × PM := F262 r1.2 (cn 4) (cn 0)
    if r2.1 = 0 then (
      (G262 r2.2 (cn 5) (cn 1)) ∧ (
      let r3 : Int32 × PM := F262 r2.2 (cn 5) (cn 1)
      if r3.1 = 0 then (
        (G262 r3.2 (cn 5) (cn 0)) ∧ (
        let r4 : Int32 × PM := F262 r3.2 (cn 5) (cn 0)
        if r4.1 = 0 then (
          (G263 r4.2 (cn 1)) ∧ (
          let r5 : Int32 × PM := F263 r4.2 (cn 1)
          if r5.1 = 0 then (
            (G263 r5.2 (cn 0)) ∧ (
            let r6 : Int32 × PM := F263 r5.2 (cn 0)
            if r6.1 = 0 then (
              True)
            else (
              True)))
          else (
            True)))
        else (
          True)))
      else (
        True)))
    else (
      True)))
  else (
    True))
noncomputable def g12_combines (p : PM) : Prop := bg12_combines v12_joins g12_joins v12_chains g12_chains p
def R264 : List Row := [(0, .aload_n 0, 1, 0, (0, 0, 0, 0, 0, 0)), (1, .iconst 4, 1, 0, (0, 0, 0, 0, 0, 4)), (2, .iconst 1, 1, 0, (0, 0, 0, 0, 0, 1)), (3, .invokevirtual 347, 3, 0, (0, 3, 0, 0, 1, 0)), (6, .ifCond .ne 46, 3, 0, (0, 0, 0, 0, 0, 0)), (9, .aload_n 0, 1, 0, (0, 0, 0, 0, 0, 0)), (10, .iconst 4, 1, 0, (0, 0, 0, 0, 0, 4)), (11, .iconst 0, 1, 0, (0, 0, 0, 0, 0, 0)), (12, .invokevirtual 347, 3, 0, (0, 3, 0, 0, 1, 0)), (15, .ifCond .ne 37, 3, 0, (0, 0, 0, 0, 0, 0)), (18, .aload_n 0, 1, 0, (0, 0, 0, 0, 0, 0)), (19, .iconst 5, 1, 0, (0, 0, 0, 0, 0, 5)), (20, .iconst 1, 1, 0, (0, 0, 0, 0, 0, 1)), (21, .invokevirtual 347, 3, 0, (0, 3, 0, 0, 1, 0)), (24, .ifCond .ne 28, 3, 0, (0, 0, 0, 0, 0, 0)), (27, .aload_n 0, 1, 0, (0, 0, 0, 0, 0, 0)), (28, .iconst 5, 1, 0, (0, 0, 0, 0, 0, 5)), (29, .iconst 0, 1, 0, (0, 0, 0, 0, 0, 0)), (30, .invokevirtual 347, 3, 0, (0, 3, 0, 0, 1, 0)), (33, .ifCond .ne 19, 3, 0, (0, 0, 0, 0, 0, 0)), (36, .aload_n 0, 1, 0, (0, 0, 0, 0, 0, 0)), (37, .iconst 1, 1, 0, (0, 0, 0, 0, 0, 1)), (38, .invokevirtual 351, 3, 0, (1, 2, 0, 0, 1, 0)), (41, .ifCond .ne 11, 3, 0, (0, 0, 0, 0, 0, 0)), (44, .aload_n 0, 1, 0, (0, 0, 0, 0, 0, 0)), (45, .iconst 0, 1, 0, (0, 0, 0, 0, 0, 0)), (46, .invokevirtual 351, 3, 0, (1, 2, 0, 0, 1, 0)), (49, .ifCond .eq 7, 3, 0, (0, 0, 0, 0, 0, 0)), (52, .iconst 1, 1, 0, (0, 0, 0, 0, 0, 1)), (53, .goto 4, 3, 0, (0, 0, 0, 0, 0, 0)), (56, .iconst 0, 1, 0, (0, 0, 0, 0, 0, 0)), (57, .ireturn, 1, 0, (1, 0, 0, 0, 0, 0))]
set_option maxRecDepth 100000 in
theorem rk264 : R264.all (rok 2 264 1 [(262, [15, 0, 0]), (263, [15, 0])]) = true := by decide +kernel
set_option maxRecDepth 100000 in
theorem tab264 {F262 : PM → Int32 → Int32 → Int32 × PM} {G262 : PM → Int32 → Int32 → Prop} {F263 : PM → Int32 → Int32 × PM} {G263 : PM → Int32 → Prop} : TabOK 2 264 1 [CC262 F262 G262, CC263 F263 G263] R264 := tab_ok (K := K264) rfl rfl (fun h => d264 h) rk264 (by decide +kernel)
set_option maxRecDepth 100000 in
theorem pc264 : cutpc [] R264 = true := by decide +kernel
set_option maxRecDepth 100000 in
theorem r12_combines (F262 : PM → Int32 → Int32 → Int32 × PM) (G262 : PM → Int32 → Int32 → Prop) (o262 : CalOK 2 (CC262 F262 G262)) (F263 : PM → Int32 → Int32 × PM) (G263 : PM → Int32 → Prop) (o263 : CalOK 2 (CC263 F263 G263)) : ∀ (p : PM), Gr 2 p → bg12_combines F262 G262 F263 G263 p → ZJ 2 264 0 [zR 12 1] [] p (hwI (bv12_combines F262 F263 p)) := by
  intro p   hg H
  exact rwI (n := 3000) (q := 0) (la := [zR 12 1]) (sa := []) (ks := []) (gs := []) (fcons o262 (fcons o263 (fnil))) tab264 pc264 trivial hg H
theorem t12_combines : ∀ (p : PM), Gr 2 p → g12_combines p → ZJ 2 264 0 [zR 12 1] [] p (hwI (v12_combines p)) := r12_combines v12_joins g12_joins ok262 v12_chains g12_chains ok263
def CC264 (F : PM → Int32 × PM) (G : PM → Prop) : Cal := (264, [15], 1, false, fun as p => (zI (F p ).1, (F p ).2), fun as p => zsw (tc2 as [(112, 1)]) False (G p ))
set_option maxRecDepth 100000 in
theorem okr264 (F : PM → Int32 × PM) (G : PM → Prop) (h : ∀ (p : PM), Gr 2 p → G p  → ZJ 2 264 0 [zR 12 1] [] p (hwI (F p ))) : CalOK 2 (CC264 F G) := cal_ok (m := 1) (by unfold mL; rw [mX_264]) (fun as p hg H => h p  hg H)
theorem ok264 : CalOK 2 (CC264 v12_combines g12_combines) := okr264 v12_combines g12_combines t12_combines
noncomputable def bv12_pegs_110 (F219 : PM → Int32 → Int32 → Int32) (F225 : PM → Int32 → PM) (p : PM) (v1 : Int32) (v2 : Int32) (v4 : Int32) : PM :=
  if v4 = (cn (-100000)) then (
    let p1 : PM := pI p 13 24 (v1).toNatClampNeg (cn 2)
    p1)
  else (
    if (F219 p v2 v4) = 0 then (
      let p8 : PM := pI p 13 24 (v1).toNatClampNeg (cn 2)
      p8)
    else (
      if (p.1 13 24 (v1).toNatClampNeg) = (cn 1) then (
        if (p.1 13 25 (v1).toNatClampNeg) = v4 then (
          p)
        else (
          let p5 : PM := pI p 13 24 (v1).toNatClampNeg (cn 1)
          let p6 : PM := pI p5 13 25 (v1).toNatClampNeg v4
          let p7 : PM := F225 p6 v1
          p7))
      else (
        let p2 : PM := pI p 13 24 (v1).toNatClampNeg (cn 1)
        let p3 : PM := pI p2 13 25 (v1).toNatClampNeg v4
        let p4 : PM := F225 p3 v1
        p4)))
noncomputable def v12_pegs_110 (p : PM) (v1 : Int32) (v2 : Int32) (v4 : Int32) : PM := bv12_pegs_110 v12_isPrice v12_newTurn p v1 v2 v4
noncomputable def bg12_pegs_110 (F219 : PM → Int32 → Int32 → Int32) (G219 : PM → Int32 → Int32 → Prop) (F225 : PM → Int32 → PM) (G225 : PM → Int32 → Prop) (p : PM) (v1 : Int32) (v2 : Int32) (v4 : Int32) : Prop :=
  if v4 = (cn (-100000)) then (
    (inb v1 44) ∧ (
    let p1 : PM := pI p 13 24 (v1).toNatClampNeg (cn 2)
    True))
  else (
    (G219 p v2 v4) ∧ (
    if (F219 p v2 v4) = 0 then (
      (inb v1 44) ∧ (
      let p8 : PM := pI p 13 24 (v1).toNatClampNeg (cn 2)
      True))
    else (
      (inb v1 44) ∧ (
      if (p.1 13 24 (v1).toNatClampNeg) = (cn 1) then (
        (inb v1 44) ∧ (
        if (p.1 13 25 (v1).toNatClampNeg) = v4 then (
          True)
        else (
          (inb v1 44) ∧ (
          let p5 : PM := pI p 13 24 (v1).toNatClampNeg (cn 1)
          (inb v1 44) ∧ (
          let p6 : PM := pI p5 13 25 (v1).toNatClampNeg v4
          (G225 p6 v1) ∧ (
          let p7 : PM := F225 p6 v1
          True))))))
      else (
        (inb v1 44) ∧ (
        let p2 : PM := pI p 13 24 (v1).toNatClampNeg (cn 1)
        (inb v1 44) ∧ (
        let p3 : PM := pI p2 13 25 (v1).toNatClampNeg v4
        (G225 p3 v1) ∧ (
        let p4 : PM := F225 p3 v1
        True))))))))
noncomputable def g12_pegs_110 (p : PM) (v1 : Int32) (v2 : Int32) (v4 : Int32) : Prop := bg12_pegs_110 v12_isPrice g12_isPrice v12_newTurn g12_newTurn p v1 v2 v4
noncomputable def bv12_pegs_72 (F219 : PM → Int32 → Int32 → Int32) (F225 : PM → Int32 → PM) (F239 : PM → Int32 → Int32 → Int32 → Int32) (kv110 : PM → Int32 → Int32 → Int32 → PM) (p : PM) (v1 : Int32) (v2 : Int32) (s0 : Int32) : PM :=
  if s0 = (cn (-100000)) then (
    kv110 p v1 v2 s0)
  else (
    if (F239 p s0 (p.1 13 18 (v1).toNatClampNeg) (p.1 15 4 (v1).toNatClampNeg)) = 0 then (
      kv110 p v1 v2 s0)
    else (
      let x1 : Int32 := (p.1 13 18 (v1).toNatClampNeg)
      if x1 = (cn (-100000)) then (
        let p2 : PM := pI p 13 24 (v1).toNatClampNeg (cn 2)
        p2)
      else (
        if (F219 p v2 x1) = 0 then (
          let p9 : PM := pI p 13 24 (v1).toNatClampNeg (cn 2)
          p9)
        else (
          if (p.1 13 24 (v1).toNatClampNeg) = (cn 1) then (
            if (p.1 13 25 (v1).toNatClampNeg) = x1 then (
              p)
            else (
              let p6 : PM := pI p 13 24 (v1).toNatClampNeg (cn 1)
              let p7 : PM := pI p6 13 25 (v1).toNatClampNeg x1
              let p8 : PM := F225 p7 v1
              p8))
          else (
            let p3 : PM := pI p 13 24 (v1).toNatClampNeg (cn 1)
            let p4 : PM := pI p3 13 25 (v1).toNatClampNeg x1
            let p5 : PM := F225 p4 v1
            p5)))))
noncomputable def v12_pegs_72 (p : PM) (v1 : Int32) (v2 : Int32) (s0 : Int32) : PM := bv12_pegs_72 v12_isPrice v12_newTurn v12_isBetter v12_pegs_110 p v1 v2 s0
noncomputable def bg12_pegs_72 (F219 : PM → Int32 → Int32 → Int32) (G219 : PM → Int32 → Int32 → Prop) (F225 : PM → Int32 → PM) (G225 : PM → Int32 → Prop) (F239 : PM → Int32 → Int32 → Int32 → Int32) (G239 : PM → Int32 → Int32 → Int32 → Prop) (kg110 : PM → Int32 → Int32 → Int32 → Prop) (p : PM) (v1 : Int32) (v2 : Int32) (s0 : Int32) : Prop :=
  if s0 = (cn (-100000)) then (
    kg110 p v1 v2 s0)
  else (
    (inb v1 44) ∧ (
    (inb v1 44) ∧ (
    (G239 p s0 (p.1 13 18 (v1).toNatClampNeg) (p.1 15 4 (v1).toNatClampNeg)) ∧ (
    if (F239 p s0 (p.1 13 18 (v1).toNatClampNeg) (p.1 15 4 (v1).toNatClampNeg)) = 0 then (
      kg110 p v1 v2 s0)
    else (
      (inb v1 44) ∧ (
      let x1 : Int32 := (p.1 13 18 (v1).toNatClampNeg)
      if x1 = (cn (-100000)) then (
        (inb v1 44) ∧ (
        let p2 : PM := pI p 13 24 (v1).toNatClampNeg (cn 2)
        True))
      else (
        (G219 p v2 x1) ∧ (
        if (F219 p v2 x1) = 0 then (
          (inb v1 44) ∧ (
          let p9 : PM := pI p 13 24 (v1).toNatClampNeg (cn 2)
          True))
        else (
          (inb v1 44) ∧ (
          if (p.1 13 24 (v1).toNatClampNeg) = (cn 1) then (
            (inb v1 44) ∧ (
            if (p.1 13 25 (v1).toNatClampNeg) = x1 then (
              True)
            else (
              (inb v1 44) ∧ (
              let p6 : PM := pI p 13 24 (v1).toNatClampNeg (cn 1)
              (inb v1 44) ∧ (
              let p7 : PM := pI p6 13 25 (v1).toNatClampNeg x1
              (G225 p7 v1) ∧ (
              let p8 : PM := F225 p7 v1
              True))))))
          else (
            (inb v1 44) ∧ (
            let p3 : PM := pI p 13 24 (v1).toNatClampNeg (cn 1)
            (inb v1 44) ∧ (
            let p4 : PM := pI p3 13 25 (v1).toNatClampNeg x1
            (G225 p4 v1) ∧ (
            let p5 : PM := F225 p4 v1
            True))))))))))))))
noncomputable def g12_pegs_72 (p : PM) (v1 : Int32) (v2 : Int32) (s0 : Int32) : Prop := bg12_pegs_72 v12_isPrice g12_isPrice v12_newTurn g12_newTurn v12_isBetter g12_isBetter g12_pegs_110 p v1 v2 s0
noncomputable def bv12_pegs (F218 : PM → Int32 → Int32) (F240 : PM → Int32 → Int32 → Int32 → Int32) (kv72 : PM → Int32 → Int32 → Int32 → PM) (p : PM) (v1 : Int32) : PM :=
  let x1 : Int32 := (p.1 13 16 (v1).toNatClampNeg)
  if (F218 p x1) = 0 then (
    if (cn (-100000)) = (cn (-100000)) then (
      kv72 p v1 x1 (cn (-100000)))
    else (
      if (p.1 15 4 (v1).toNatClampNeg) = 0 then (
        kv72 p v1 x1 ((cn (-100000)) + (p.1 13 26 (v1).toNatClampNeg)))
      else (
        kv72 p v1 x1 ((cn (-100000)) - (p.1 13 26 (v1).toNatClampNeg)))))
  else (
    let x2 : Int32 := (F240 p x1 (p.1 15 4 (v1).toNatClampNeg) (cn 0))
    if x2 = (cn (-100000)) then (
      kv72 p v1 x1 (cn (-100000)))
    else (
      if (p.1 15 4 (v1).toNatClampNeg) = 0 then (
        kv72 p v1 x1 (x2 + (p.1 13 26 (v1).toNatClampNeg)))
      else (
        kv72 p v1 x1 (x2 - (p.1 13 26 (v1).toNatClampNeg)))))
noncomputable def v12_pegs (p : PM) (v1 : Int32) : PM := bv12_pegs v12_isOpen v12_bestOf v12_pegs_72 p v1
noncomputable def bg12_pegs (F218 : PM → Int32 → Int32) (G218 : PM → Int32 → Prop) (F240 : PM → Int32 → Int32 → Int32 → Int32) (G240 : PM → Int32 → Int32 → Int32 → Prop) (kg72 : PM → Int32 → Int32 → Int32 → Prop) (p : PM) (v1 : Int32) : Prop :=
  (inb v1 44) ∧ (
  let x1 : Int32 := (p.1 13 16 (v1).toNatClampNeg)
  (G218 p x1) ∧ (
  if (F218 p x1) = 0 then (
    if (cn (-100000)) = (cn (-100000)) then (
      kg72 p v1 x1 (cn (-100000)))
    else (
      (inb v1 44) ∧ (
      if (p.1 15 4 (v1).toNatClampNeg) = 0 then (
        (inb v1 44) ∧ (
        kg72 p v1 x1 ((cn (-100000)) + (p.1 13 26 (v1).toNatClampNeg))))
      else (
        (inb v1 44) ∧ (
        kg72 p v1 x1 ((cn (-100000)) - (p.1 13 26 (v1).toNatClampNeg)))))))
  else (
    (inb v1 44) ∧ (
    (G240 p x1 (p.1 15 4 (v1).toNatClampNeg) (cn 0)) ∧ (
    let x2 : Int32 := (F240 p x1 (p.1 15 4 (v1).toNatClampNeg) (cn 0))
    if x2 = (cn (-100000)) then (
      kg72 p v1 x1 (cn (-100000)))
    else (
      (inb v1 44) ∧ (
      if (p.1 15 4 (v1).toNatClampNeg) = 0 then (
        (inb v1 44) ∧ (
        kg72 p v1 x1 (x2 + (p.1 13 26 (v1).toNatClampNeg))))
      else (
        (inb v1 44) ∧ (
        kg72 p v1 x1 (x2 - (p.1 13 26 (v1).toNatClampNeg)))))))))))
noncomputable def g12_pegs (p : PM) (v1 : Int32) : Prop := bg12_pegs v12_isOpen g12_isOpen v12_bestOf g12_bestOf g12_pegs_72 p v1
def R265 : List Row := [(0, .aload_n 0, 1, 0, (0, 0, 0, 0, 0, 0)), (1, .getfield 69, 3, 0, (12, 22, 16, 2, 16, 0)), (4, .iload_n 1, 1, 0, (0, 0, 0, 0, 0, 0)), (5, .iaload, 1, 0, (13, 44, 0, 0, 0, 0)), (6, .istore_n 2, 1, 0, (0, 0, 0, 0, 0, 0)), (7, .aload_n 0, 1, 0, (0, 0, 0, 0, 0, 0)), (8, .iload_n 2, 1, 0, (0, 0, 0, 0, 0, 0)), (9, .invokevirtual 328, 3, 0, (0, 2, 0, 0, 1, 0)), (12, .ifCond .eq 18, 3, 0, (0, 0, 0, 0, 0, 0)), (15, .aload_n 0, 1, 0, (0, 0, 0, 0, 0, 0)), (16, .iload_n 2, 1, 0, (0, 0, 0, 0, 0, 0)), (17, .aload_n 0, 1, 0, (0, 0, 0, 0, 0, 0)), (18, .getfield 72, 3, 0, (12, 23, 18, 2, 4, 0)), (21, .iload_n 1, 1, 0, (0, 0, 0, 0, 0, 0)), (22, .baload, 1, 0, (15, 44, 0, 0, 0, 0)), (23, .iconst 0, 1, 0, (0, 0, 0, 0, 0, 0)), (24, .invokevirtual 301, 3, 0, (1, 4, 0, 0, 1, 0)), (27, .goto 5, 3, 0, (0, 0, 0, 0, 0, 0)), (30, .ldc 184, 2, 0, (0, 0, 0, 0, 0, -100000)), (32, .istore_n 3, 1, 0, (0, 0, 0, 0, 0, 0)), (33, .iload_n 3, 1, 0, (0, 0, 0, 0, 0, 0)), (34, .ldc 184, 2, 0, (0, 0, 0, 0, 0, -100000)), (36, .if_icmp .ne 8, 3, 0, (0, 0, 0, 0, 0, 0)), (39, .ldc 184, 2, 0, (0, 0, 0, 0, 0, -100000)), (41, .goto 31, 3, 0, (0, 0, 0, 0, 0, 0)), (44, .aload_n 0, 1, 0, (0, 0, 0, 0, 0, 0)), (45, .getfield 72, 3, 0, (12, 23, 18, 2, 4, 0)), (48, .iload_n 1, 1, 0, (0, 0, 0, 0, 0, 0)), (49, .baload, 1, 0, (15, 44, 0, 0, 0, 0)), (50, .ifCond .eq 14, 3, 0, (0, 0, 0, 0, 0, 0)), (53, .iload_n 3, 1, 0, (0, 0, 0, 0, 0, 0)), (54, .aload_n 0, 1, 0, (0, 0, 0, 0, 0, 0)), (55, .getfield 105, 3, 0, (12, 34, 16, 2, 26, 0)), (58, .iload_n 1, 1, 0, (0, 0, 0, 0, 0, 0)), (59, .iaload, 1, 0, (13, 44, 0, 0, 0, 0)), (60, .isub, 1, 0, (0, 0, 0, 0, 0, 0)), (61, .goto 11, 3, 0, (0, 0, 0, 0, 0, 0)), (64, .iload_n 3, 1, 0, (0, 0, 0, 0, 0, 0)), (65, .aload_n 0, 1, 0, (0, 0, 0, 0, 0, 0)), (66, .getfield 105, 3, 0, (12, 34, 16, 2, 26, 0)), (69, .iload_n 1, 1, 0, (0, 0, 0, 0, 0, 0)), (70, .iaload, 1, 0, (13, 44, 0, 0, 0, 0)), (71, .iadd, 1, 0, (0, 0, 0, 0, 0, 0)), (72, .istore 4, 2, 1, (0, 0, 0, 0, 0, 0)), (74, .iload 4, 2, 0, (0, 0, 0, 0, 0, 0)), (76, .ldc 184, 2, 0, (0, 0, 0, 0, 0, -100000)), (78, .if_icmp .eq 32, 3, 0, (0, 0, 0, 0, 0, 0)), (81, .iload 4, 2, 0, (0, 0, 0, 0, 0, 0)), (83, .aload_n 0, 1, 0, (0, 0, 0, 0, 0, 0)), (84, .getfield 81, 3, 0, (12, 26, 16, 2, 18, 0)), (87, .iload_n 1, 1, 0, (0, 0, 0, 0, 0, 0)), (88, .iaload, 1, 0, (13, 44, 0, 0, 0, 0)), (89, .aload_n 0, 1, 0, (0, 0, 0, 0, 0, 0)), (90, .getfield 72, 3, 0, (12, 23, 18, 2, 4, 0)), (93, .iload_n 1, 1, 0, (0, 0, 0, 0, 0, 0)), (94, .baload, 1, 0, (15, 44, 0, 0, 0, 0)), (95, .invokestatic 248, 3, 0, (2, 3, 0, 0, 0, 0)), (98, .ifCond .eq 12, 3, 0, (0, 0, 0, 0, 0, 0)), (101, .aload_n 0, 1, 0, (0, 0, 0, 0, 0, 0)), (102, .getfield 81, 3, 0, (12, 26, 16, 2, 18, 0)), (105, .iload_n 1, 1, 0, (0, 0, 0, 0, 0, 0)), (106, .iaload, 1, 0, (13, 44, 0, 0, 0, 0)), (107, .goto 5, 3, 0, (0, 0, 0, 0, 0, 0)), (110, .iload 4, 2, 2, (0, 0, 0, 0, 0, 0)), (112, .istore 4, 2, 0, (0, 0, 0, 0, 0, 0)), (114, .iload 4, 2, 0, (0, 0, 0, 0, 0, 0)), (116, .ldc 184, 2, 0, (0, 0, 0, 0, 0, -100000)), (118, .if_icmp .eq 12, 3, 0, (0, 0, 0, 0, 0, 0)), (121, .iload_n 2, 1, 0, (0, 0, 0, 0, 0, 0)), (122, .iload 4, 2, 0, (0, 0, 0, 0, 0, 0)), (124, .invokestatic 334, 3, 0, (3, 2, 0, 0, 0, 0)), (127, .ifCond .ne 13, 3, 0, (0, 0, 0, 0, 0, 0)), (130, .aload_n 0, 1, 0, (0, 0, 0, 0, 0, 0)), (131, .getfield 99, 3, 0, (12, 32, 16, 2, 24, 0)), (134, .iload_n 1, 1, 0, (0, 0, 0, 0, 0, 0)), (135, .iconst 2, 1, 0, (0, 0, 0, 0, 0, 2)), (136, .iastore, 1, 0, (13, 44, 0, 0, 0, 0)), (137, .goto 44, 3, 0, (0, 0, 0, 0, 0, 0)), (140, .aload_n 0, 1, 0, (0, 0, 0, 0, 0, 0)), (141, .getfield 99, 3, 0, (12, 32, 16, 2, 24, 0)), (144, .iload_n 1, 1, 0, (0, 0, 0, 0, 0, 0)), (145, .iaload, 1, 0, (13, 44, 0, 0, 0, 0)), (146, .iconst 1, 1, 0, (0, 0, 0, 0, 0, 1)), (147, .if_icmp .ne 14, 3, 0, (0, 0, 0, 0, 0, 0)), (150, .aload_n 0, 1, 0, (0, 0, 0, 0, 0, 0)), (151, .getfield 102, 3, 0, (12, 33, 16, 2, 25, 0)), (154, .iload_n 1, 1, 0, (0, 0, 0, 0, 0, 0)), (155, .iaload, 1, 0, (13, 44, 0, 0, 0, 0)), (156, .iload 4, 2, 0, (0, 0, 0, 0, 0, 0)), (158, .if_icmp .eq 23, 3, 0, (0, 0, 0, 0, 0, 0)), (161, .aload_n 0, 1, 0, (0, 0, 0, 0, 0, 0)), (162, .getfield 99, 3, 0, (12, 32, 16, 2, 24, 0)), (165, .iload_n 1, 1, 0, (0, 0, 0, 0, 0, 0)), (166, .iconst 1, 1, 0, (0, 0, 0, 0, 0, 1)), (167, .iastore, 1, 0, (13, 44, 0, 0, 0, 0)), (168, .aload_n 0, 1, 0, (0, 0, 0, 0, 0, 0)), (169, .getfield 102, 3, 0, (12, 33, 16, 2, 25, 0)), (172, .iload_n 1, 1, 0, (0, 0, 0, 0, 0, 0)), (173, .iload 4, 2, 0, (0, 0, 0, 0, 0, 0)), (175, .iastore, 1, 0, (13, 44, 0, 0, 0, 0)), (176, .aload_n 0, 1, 0, (0, 0, 0, 0, 0, 0)), (177, .iload_n 1, 1, 0, (0, 0, 0, 0, 0, 0)), (178, .invokevirtual 221, 3, 0, (4, 2, 0, 0, 1, 0)), (181, .return_, 1, 0, (0, 0, 0, 0, 0, 0))]
set_option maxRecDepth 100000 in
theorem rk265 : R265.all (rok 2 265 0 [(218, [15, 0]), (240, [15, 0, 0, 0]), (239, [0, 0, 0]), (219, [0, 0]), (225, [15, 0])]) = true := by decide +kernel
set_option maxRecDepth 100000 in
theorem tab265 {F218 : PM → Int32 → Int32} {G218 : PM → Int32 → Prop} {F240 : PM → Int32 → Int32 → Int32 → Int32} {G240 : PM → Int32 → Int32 → Int32 → Prop} {F239 : PM → Int32 → Int32 → Int32 → Int32} {G239 : PM → Int32 → Int32 → Int32 → Prop} {F219 : PM → Int32 → Int32 → Int32} {G219 : PM → Int32 → Int32 → Prop} {F225 : PM → Int32 → PM} {G225 : PM → Int32 → Prop} : TabOK 2 265 0 [CC218 F218 G218, CC240 F240 G240, CC239 F239 G239, CC219 F219 G219, CC225 F225 G225] R265 := tab_ok (K := K265) rfl rfl (fun h => d265 h) rk265 (by decide +kernel)
set_option maxRecDepth 100000 in
theorem pc265 : cutpc [72, 110] R265 = true := by decide +kernel
set_option maxRecDepth 100000 in
theorem r12_pegs_110 (F218 : PM → Int32 → Int32) (G218 : PM → Int32 → Prop) (o218 : CalOK 2 (CC218 F218 G218)) (F240 : PM → Int32 → Int32 → Int32 → Int32) (G240 : PM → Int32 → Int32 → Int32 → Prop) (o240 : CalOK 2 (CC240 F240 G240)) (F239 : PM → Int32 → Int32 → Int32 → Int32) (G239 : PM → Int32 → Int32 → Int32 → Prop) (o239 : CalOK 2 (CC239 F239 G239)) (F219 : PM → Int32 → Int32 → Int32) (G219 : PM → Int32 → Int32 → Prop) (o219 : CalOK 2 (CC219 F219 G219)) (F225 : PM → Int32 → PM) (G225 : PM → Int32 → Prop) (o225 : CalOK 2 (CC225 F225 G225)) : ∀ (p : PM) (v1 : Int32) (v2 : Int32) (v4 : Int32) (d3 : ZV), Gr 2 p → bg12_pegs_110 F219 G219 F225 G225 p v1 v2 v4 → ZJ 2 265 110 [zR 12 1, zI v1, zI v2, d3, zI v4] [] p (hwV (bv12_pegs_110 F219 F225 p v1 v2 v4)) := by
  intro p v1 v2 v4 d3 hg H
  exact rwV (n := 3000) (q := 110) (la := [zR 12 1, zI v1, zI v2, d3, zI v4]) (sa := []) (ks := [fun _ _ s => s, fun _ _ s => s]) (gs := [fun _ _ _ => False, fun _ _ _ => False]) (fcons o218 (fcons o240 (fcons o239 (fcons o219 (fcons o225 (fnil)))))) tab265 pc265 ⟨fun _ _ _ _ H => H.elim, fun _ _ _ _ H => H.elim, trivial⟩ hg H
theorem t12_pegs_110 : ∀ (p : PM) (v1 : Int32) (v2 : Int32) (v4 : Int32) (d3 : ZV), Gr 2 p → g12_pegs_110 p v1 v2 v4 → ZJ 2 265 110 [zR 12 1, zI v1, zI v2, d3, zI v4] [] p (hwV (v12_pegs_110 p v1 v2 v4)) := r12_pegs_110 v12_isOpen g12_isOpen ok218 v12_bestOf g12_bestOf ok240 v12_isBetter g12_isBetter ok239 v12_isPrice g12_isPrice ok219 v12_newTurn g12_newTurn ok225
set_option maxRecDepth 100000 in
theorem r12_pegs_72 (F218 : PM → Int32 → Int32) (G218 : PM → Int32 → Prop) (o218 : CalOK 2 (CC218 F218 G218)) (F240 : PM → Int32 → Int32 → Int32 → Int32) (G240 : PM → Int32 → Int32 → Int32 → Prop) (o240 : CalOK 2 (CC240 F240 G240)) (F239 : PM → Int32 → Int32 → Int32 → Int32) (G239 : PM → Int32 → Int32 → Int32 → Prop) (o239 : CalOK 2 (CC239 F239 G239)) (F219 : PM → Int32 → Int32 → Int32) (G219 : PM → Int32 → Int32 → Prop) (o219 : CalOK 2 (CC219 F219 G219)) (F225 : PM → Int32 → PM) (G225 : PM → Int32 → Prop) (o225 : CalOK 2 (CC225 F225 G225)) (kv110 : PM → Int32 → Int32 → Int32 → PM) (kg110 : PM → Int32 → Int32 → Int32 → Prop) (hk110 : ∀ (p : PM) (v1 : Int32) (v2 : Int32) (v4 : Int32) (d3 : ZV), Gr 2 p → kg110 p v1 v2 v4 → ZJ 2 265 110 [zR 12 1, zI v1, zI v2, d3, zI v4] [] p (hwV (kv110 p v1 v2 v4))) : ∀ (p : PM) (v1 : Int32) (v2 : Int32) (s0 : Int32) (d3 d4 : ZV), Gr 2 p → bg12_pegs_72 F219 G219 F225 G225 F239 G239 kg110 p v1 v2 s0 → ZJ 2 265 72 [zR 12 1, zI v1, zI v2, d3, d4] [zI s0] p (hwV (bv12_pegs_72 F219 F225 F239 kv110 p v1 v2 s0)) := by
  intro p v1 v2 s0 d3 d4 hg H
  exact rwV (n := 3000) (q := 72) (la := [zR 12 1, zI v1, zI v2, d3, d4]) (sa := [zI s0]) (ks := [fun _ _ s => s, fun la sa s => kv110 s (ai la 1) (ai la 2) (ai la 4)]) (gs := [fun _ _ _ => False, fun la sa s => zsw (tc2 la [(112, 1), (0, 0), (0, 0), (2, 0), (0, 0)] && tc2 sa []) False (kg110 s (ai la 1) (ai la 2) (ai la 4))]) (fcons o218 (fcons o240 (fcons o239 (fcons o219 (fcons o225 (fnil)))))) tab265 pc265 ⟨fun _ _ _ _ H => H.elim, fun la sa s hg H => zcut H fun H => hk110 s (ai la 1) (ai la 2) (ai la 4) (zld la 3) hg H, trivial⟩ hg H
theorem t12_pegs_72 : ∀ (p : PM) (v1 : Int32) (v2 : Int32) (s0 : Int32) (d3 d4 : ZV), Gr 2 p → g12_pegs_72 p v1 v2 s0 → ZJ 2 265 72 [zR 12 1, zI v1, zI v2, d3, d4] [zI s0] p (hwV (v12_pegs_72 p v1 v2 s0)) := r12_pegs_72 v12_isOpen g12_isOpen ok218 v12_bestOf g12_bestOf ok240 v12_isBetter g12_isBetter ok239 v12_isPrice g12_isPrice ok219 v12_newTurn g12_newTurn ok225 (v12_pegs_110) (g12_pegs_110) (t12_pegs_110)
set_option maxRecDepth 100000 in
theorem r12_pegs (F218 : PM → Int32 → Int32) (G218 : PM → Int32 → Prop) (o218 : CalOK 2 (CC218 F218 G218)) (F240 : PM → Int32 → Int32 → Int32 → Int32) (G240 : PM → Int32 → Int32 → Int32 → Prop) (o240 : CalOK 2 (CC240 F240 G240)) (F239 : PM → Int32 → Int32 → Int32 → Int32) (G239 : PM → Int32 → Int32 → Int32 → Prop) (o239 : CalOK 2 (CC239 F239 G239)) (F219 : PM → Int32 → Int32 → Int32) (G219 : PM → Int32 → Int32 → Prop) (o219 : CalOK 2 (CC219 F219 G219)) (F225 : PM → Int32 → PM) (G225 : PM → Int32 → Prop) (o225 : CalOK 2 (CC225 F225 G225)) (kv72 : PM → Int32 → Int32 → Int32 → PM) (kg72 : PM → Int32 → Int32 → Int32 → Prop) (hk72 : ∀ (p : PM) (v1 : Int32) (v2 : Int32) (s0 : Int32) (d3 d4 : ZV), Gr 2 p → kg72 p v1 v2 s0 → ZJ 2 265 72 [zR 12 1, zI v1, zI v2, d3, d4] [zI s0] p (hwV (kv72 p v1 v2 s0))) : ∀ (p : PM) (v1 : Int32), Gr 2 p → bg12_pegs F218 G218 F240 G240 kg72 p v1 → ZJ 2 265 0 [zR 12 1, zI v1, zJ, zJ, zJ] [] p (hwV (bv12_pegs F218 F240 kv72 p v1)) := by
  intro p v1  hg H
  exact rwV (n := 3000) (q := 0) (la := [zR 12 1, zI v1, zJ, zJ, zJ]) (sa := []) (ks := [fun la sa s => kv72 s (ai la 1) (ai la 2) (ai sa 0), fun _ _ s => s]) (gs := [fun la sa s => zsw (tc2 la [(112, 1), (0, 0), (0, 0), (2, 0), (2, 0)] && tc2 sa [(0, 0)]) False (kg72 s (ai la 1) (ai la 2) (ai sa 0)), fun _ _ _ => False]) (fcons o218 (fcons o240 (fcons o239 (fcons o219 (fcons o225 (fnil)))))) tab265 pc265 ⟨fun la sa s hg H => zcut H fun H => hk72 s (ai la 1) (ai la 2) (ai sa 0) (zld la 3) (zld la 4) hg H, fun _ _ _ _ H => H.elim, trivial⟩ hg H
theorem t12_pegs : ∀ (p : PM) (v1 : Int32), Gr 2 p → g12_pegs p v1 → ZJ 2 265 0 [zR 12 1, zI v1, zJ, zJ, zJ] [] p (hwV (v12_pegs p v1)) := r12_pegs v12_isOpen g12_isOpen ok218 v12_bestOf g12_bestOf ok240 v12_isBetter g12_isBetter ok239 v12_isPrice g12_isPrice ok219 v12_newTurn g12_newTurn ok225 (v12_pegs_72) (g12_pegs_72) (t12_pegs_72)
def CC265 (F : PM → Int32 → PM) (G : PM → Int32 → Prop) : Cal := (265, [15, 0], 0, false, fun as p => (zJ, (F p (ai as 1))), fun as p => zsw (tc2 as [(112, 1), (0, 0)]) False (G p (ai as 1)))
set_option maxRecDepth 100000 in
theorem okr265 (F : PM → Int32 → PM) (G : PM → Int32 → Prop) (h : ∀ (p : PM) (v1 : Int32), Gr 2 p → G p v1 → ZJ 2 265 0 [zR 12 1, zI v1, zJ, zJ, zJ] [] p (hwV (F p v1))) : CalOK 2 (CC265 F G) := cal_ok (m := 5) (by unfold mL; rw [mX_265]) (fun as p hg H => h p (ai as 1) hg H)
theorem ok265 : CalOK 2 (CC265 v12_pegs g12_pegs) := okr265 v12_pegs g12_pegs t12_pegs
noncomputable def bv12_pegsAll_12 (F265 : PM → Int32 → PM) (kv4 : PM → Int32 → Int32 → PM) (kv12 : PM → Int32 → Int32 → Int32 → PM) (p : PM) (v1 : Int32) (v2 : Int32) (v3 : Int32) : PM :=
  if v3 < (cn 44) then (
    if (p.1 15 3 (v3).toNatClampNeg) = 0 then (
      kv12 p v1 v2 (v3 + (cn 1)))
    else (
      if (p.1 13 19 (v3).toNatClampNeg) = (cn 2) then (
        if v1 < (p.1 13 14 (v3).toNatClampNeg) then (
          if v2 < 0 then (
            kv12 p v1 v3 (v3 + (cn 1)))
          else (
            if (p.1 13 14 (v3).toNatClampNeg) < (p.1 13 14 (v2).toNatClampNeg) then (
              kv12 p v1 v3 (v3 + (cn 1)))
            else (
              kv12 p v1 v2 (v3 + (cn 1)))))
        else (
          kv12 p v1 v2 (v3 + (cn 1))))
      else (
        kv12 p v1 v2 (v3 + (cn 1)))))
  else (
    if v2 < 0 then (
      kv4 p v1 v2)
    else (
      let x1 : Int32 := (p.1 13 14 (v2).toNatClampNeg)
      let p2 : PM := F265 p v2
      kv4 p2 x1 v2))
noncomputable def v12_pegsAll_12 (kv4 : PM → Int32 → Int32 → PM) (n : Nat) : PM → Int32 → Int32 → Int32 → PM := Nat.rec (motive := fun _ => PM → Int32 → Int32 → Int32 → PM) (fun p _ _ _ => p) (fun _ ih => bv12_pegsAll_12 v12_pegs kv4 ih) n
theorem ev12_pegsAll_12 (kv4 : PM → Int32 → Int32 → PM) (n : Nat) (p : PM) (v1 : Int32) (v2 : Int32) (v3 : Int32) : v12_pegsAll_12 kv4 (n + 1) p v1 v2 v3 = bv12_pegsAll_12 v12_pegs kv4 (v12_pegsAll_12 kv4 n) p v1 v2 v3 := rfl
noncomputable def bg12_pegsAll_12 (F265 : PM → Int32 → PM) (G265 : PM → Int32 → Prop) (kg4 : PM → Int32 → Int32 → Prop) (kg12 : PM → Int32 → Int32 → Int32 → Prop) (p : PM) (v1 : Int32) (v2 : Int32) (v3 : Int32) : Prop :=
  if v3 < (cn 44) then (
    (inb v3 44) ∧ (
    if (p.1 15 3 (v3).toNatClampNeg) = 0 then (
      kg12 p v1 v2 (v3 + (cn 1)))
    else (
      (inb v3 44) ∧ (
      if (p.1 13 19 (v3).toNatClampNeg) = (cn 2) then (
        (inb v3 44) ∧ (
        if v1 < (p.1 13 14 (v3).toNatClampNeg) then (
          if v2 < 0 then (
            kg12 p v1 v3 (v3 + (cn 1)))
          else (
            (inb v3 44) ∧ (
            (inb v2 44) ∧ (
            if (p.1 13 14 (v3).toNatClampNeg) < (p.1 13 14 (v2).toNatClampNeg) then (
              kg12 p v1 v3 (v3 + (cn 1)))
            else (
              kg12 p v1 v2 (v3 + (cn 1)))))))
        else (
          kg12 p v1 v2 (v3 + (cn 1)))))
      else (
        kg12 p v1 v2 (v3 + (cn 1)))))))
  else (
    if v2 < 0 then (
      kg4 p v1 v2)
    else (
      (inb v2 44) ∧ (
      let x1 : Int32 := (p.1 13 14 (v2).toNatClampNeg)
      (G265 p v2) ∧ (
      let p2 : PM := F265 p v2
      kg4 p2 x1 v2))))
noncomputable def g12_pegsAll_12 (kg4 : PM → Int32 → Int32 → Prop) (n : Nat) : PM → Int32 → Int32 → Int32 → Prop := Nat.rec (motive := fun _ => PM → Int32 → Int32 → Int32 → Prop) (fun _ _ _ _ => False) (fun _ ih => bg12_pegsAll_12 v12_pegs g12_pegs kg4 ih) n
theorem eg12_pegsAll_12 (kg4 : PM → Int32 → Int32 → Prop) (n : Nat) (p : PM) (v1 : Int32) (v2 : Int32) (v3 : Int32) : g12_pegsAll_12 kg4 (n + 1) p v1 v2 v3 = bg12_pegsAll_12 v12_pegs g12_pegs kg4 (g12_pegsAll_12 kg4 n) p v1 v2 v3 := rfl
noncomputable def bv12_pegsAll_4 (kv12 : PM → Int32 → Int32 → Int32 → PM) (p : PM) (v1 : Int32) (v2 : Int32) : PM :=
  if v2 < 0 then (
    p)
  else (
    kv12 p v1 (cn (-1)) (cn 0))
noncomputable def v12_pegsAll_4 (n : Nat) : PM → Int32 → Int32 → PM := Nat.rec (motive := fun _ => PM → Int32 → Int32 → PM) (fun p _ _ => p) (fun _ ih => bv12_pegsAll_4 (v12_pegsAll_12 ih FU)) n
theorem ev12_pegsAll_4 (n : Nat) (p : PM) (v1 : Int32) (v2 : Int32) : v12_pegsAll_4 (n + 1) p v1 v2 = bv12_pegsAll_4 (v12_pegsAll_12 (v12_pegsAll_4 n) FU) p v1 v2 := rfl
noncomputable def bg12_pegsAll_4 (kg12 : PM → Int32 → Int32 → Int32 → Prop) (p : PM) (v1 : Int32) (v2 : Int32) : Prop :=
  if v2 < 0 then (
    True)
  else (
    kg12 p v1 (cn (-1)) (cn 0))
noncomputable def g12_pegsAll_4 (n : Nat) : PM → Int32 → Int32 → Prop := Nat.rec (motive := fun _ => PM → Int32 → Int32 → Prop) (fun _ _ _ => False) (fun _ ih => bg12_pegsAll_4 (g12_pegsAll_12 ih FU)) n
theorem eg12_pegsAll_4 (n : Nat) (p : PM) (v1 : Int32) (v2 : Int32) : g12_pegsAll_4 (n + 1) p v1 v2 = bg12_pegsAll_4 (g12_pegsAll_12 (g12_pegsAll_4 n) FU) p v1 v2 := rfl
noncomputable def bv12_pegsAll (kv4 : PM → Int32 → Int32 → PM) (p : PM) : PM :=
  kv4 p (cn (-1)) (cn 0)
noncomputable def v12_pegsAll (p : PM) : PM := bv12_pegsAll (v12_pegsAll_4 FU) p
noncomputable def bg12_pegsAll (kg4 : PM → Int32 → Int32 → Prop) (p : PM) : Prop :=
  kg4 p (cn (-1)) (cn 0)
noncomputable def g12_pegsAll (p : PM) : Prop := bg12_pegsAll (g12_pegsAll_4 FU) p
def R266 : List Row := [(0, .iconst (-1), 1, 0, (0, 0, 0, 0, 0, -1)), (1, .istore_n 1, 1, 0, (0, 0, 0, 0, 0, 0)), (2, .iconst 0, 1, 0, (0, 0, 0, 0, 0, 0)), (3, .istore_n 2, 1, 0, (0, 0, 0, 0, 0, 0)), (4, .iload_n 2, 1, 1, (0, 0, 0, 0, 0, 0)), (5, .ifCond .lt 104, 3, 0, (0, 0, 0, 0, 0, 0)), (8, .iconst (-1), 1, 0, (0, 0, 0, 0, 0, -1)), (9, .istore_n 2, 1, 0, (0, 0, 0, 0, 0, 0)), (10, .iconst 0, 1, 0, (0, 0, 0, 0, 0, 0)), (11, .istore_n 3, 1, 0, (0, 0, 0, 0, 0, 0)), (12, .iload_n 3, 1, 2, (0, 0, 0, 0, 0, 0)), (13, .bipush 44, 2, 0, (0, 0, 0, 0, 0, 44)), (15, .if_icmp .ge 75, 3, 0, (0, 0, 0, 0, 0, 0)), (18, .aload_n 0, 1, 0, (0, 0, 0, 0, 0, 0)), (19, .getfield 60, 3, 0, (12, 19, 18, 2, 3, 0)), (22, .iload_n 3, 1, 0, (0, 0, 0, 0, 0, 0)), (23, .baload, 1, 0, (15, 44, 0, 0, 0, 0)), (24, .ifCond .eq 27, 3, 0, (0, 0, 0, 0, 0, 0)), (27, .aload_n 0, 1, 0, (0, 0, 0, 0, 0, 0)), (28, .getfield 84, 3, 0, (12, 27, 16, 2, 19, 0)), (31, .iload_n 3, 1, 0, (0, 0, 0, 0, 0, 0)), (32, .iaload, 1, 0, (13, 44, 0, 0, 0, 0)), (33, .iconst 2, 1, 0, (0, 0, 0, 0, 0, 2)), (34, .if_icmp .ne 17, 3, 0, (0, 0, 0, 0, 0, 0)), (37, .aload_n 0, 1, 0, (0, 0, 0, 0, 0, 0)), (38, .getfield 63, 3, 0, (12, 20, 16, 2, 14, 0)), (41, .iload_n 3, 1, 0, (0, 0, 0, 0, 0, 0)), (42, .iaload, 1, 0, (13, 44, 0, 0, 0, 0)), (43, .iload_n 1, 1, 0, (0, 0, 0, 0, 0, 0)), (44, .if_icmp .le 7, 3, 0, (0, 0, 0, 0, 0, 0)), (47, .iconst 1, 1, 0, (0, 0, 0, 0, 0, 1)), (48, .goto 4, 3, 0, (0, 0, 0, 0, 0, 0)), (51, .iconst 0, 1, 0, (0, 0, 0, 0, 0, 0)), (52, .istore 4, 2, 0, (0, 0, 0, 0, 0, 0)), (54, .iload 4, 2, 0, (0, 0, 0, 0, 0, 0)), (56, .ifCond .eq 26, 3, 0, (0, 0, 0, 0, 0, 0)), (59, .iload_n 2, 1, 0, (0, 0, 0, 0, 0, 0)), (60, .ifCond .lt 18, 3, 0, (0, 0, 0, 0, 0, 0)), (63, .aload_n 0, 1, 0, (0, 0, 0, 0, 0, 0)), (64, .getfield 63, 3, 0, (12, 20, 16, 2, 14, 0)), (67, .iload_n 3, 1, 0, (0, 0, 0, 0, 0, 0)), (68, .iaload, 1, 0, (13, 44, 0, 0, 0, 0)), (69, .aload_n 0, 1, 0, (0, 0, 0, 0, 0, 0)), (70, .getfield 63, 3, 0, (12, 20, 16, 2, 14, 0)), (73, .iload_n 2, 1, 0, (0, 0, 0, 0, 0, 0)), (74, .iaload, 1, 0, (13, 44, 0, 0, 0, 0)), (75, .if_icmp .ge 7, 3, 0, (0, 0, 0, 0, 0, 0)), (78, .iload_n 3, 1, 0, (0, 0, 0, 0, 0, 0)), (79, .goto 4, 3, 0, (0, 0, 0, 0, 0, 0)), (82, .iload_n 2, 1, 0, (0, 0, 0, 0, 0, 0)), (83, .istore_n 2, 1, 0, (0, 0, 0, 0, 0, 0)), (84, .iinc 3 1, 3, 0, (0, 0, 0, 0, 0, 1)), (87, .goto (-75), 3, 0, (0, 0, 0, 0, 0, 0)), (90, .iload_n 2, 1, 0, (0, 0, 0, 0, 0, 0)), (91, .ifCond .lt (-87), 3, 0, (0, 0, 0, 0, 0, 0)), (94, .aload_n 0, 1, 0, (0, 0, 0, 0, 0, 0)), (95, .getfield 63, 3, 0, (12, 20, 16, 2, 14, 0)), (98, .iload_n 2, 1, 0, (0, 0, 0, 0, 0, 0)), (99, .iaload, 1, 0, (13, 44, 0, 0, 0, 0)), (100, .istore_n 1, 1, 0, (0, 0, 0, 0, 0, 0)), (101, .aload_n 0, 1, 0, (0, 0, 0, 0, 0, 0)), (102, .iload_n 2, 1, 0, (0, 0, 0, 0, 0, 0)), (103, .invokevirtual 355, 3, 0, (0, 2, 0, 0, 1, 0)), (106, .goto (-102), 3, 0, (0, 0, 0, 0, 0, 0)), (109, .return_, 1, 0, (0, 0, 0, 0, 0, 0))]
set_option maxRecDepth 100000 in
theorem rk266 : R266.all (rok 2 266 0 [(265, [15, 0])]) = true := by decide +kernel
set_option maxRecDepth 100000 in
theorem tab266 {F265 : PM → Int32 → PM} {G265 : PM → Int32 → Prop} : TabOK 2 266 0 [CC265 F265 G265] R266 := tab_ok (K := K266) rfl rfl (fun h => d266 h) rk266 (by decide +kernel)
set_option maxRecDepth 100000 in
theorem pc266 : cutpc [4, 12] R266 = true := by decide +kernel
set_option maxRecDepth 100000 in
theorem r12_pegsAll_12 (F265 : PM → Int32 → PM) (G265 : PM → Int32 → Prop) (o265 : CalOK 2 (CC265 F265 G265)) (kv4 : PM → Int32 → Int32 → PM) (kg4 : PM → Int32 → Int32 → Prop) (hk4 : ∀ (p : PM) (v1 : Int32) (v2 : Int32) (d3 d4 : ZV), Gr 2 p → kg4 p v1 v2 → ZJ 2 266 4 [zR 12 1, zI v1, zI v2, d3, d4] [] p (hwV (kv4 p v1 v2))) (kv12 : PM → Int32 → Int32 → Int32 → PM) (kg12 : PM → Int32 → Int32 → Int32 → Prop) (hk12 : ∀ (p : PM) (v1 : Int32) (v2 : Int32) (v3 : Int32) (d4 : ZV), Gr 2 p → kg12 p v1 v2 v3 → ZJ 2 266 12 [zR 12 1, zI v1, zI v2, zI v3, d4] [] p (hwV (kv12 p v1 v2 v3))) : ∀ (p : PM) (v1 : Int32) (v2 : Int32) (v3 : Int32) (d4 : ZV), Gr 2 p → bg12_pegsAll_12 F265 G265 kg4 kg12 p v1 v2 v3 → ZJ 2 266 12 [zR 12 1, zI v1, zI v2, zI v3, d4] [] p (hwV (bv12_pegsAll_12 F265 kv4 kv12 p v1 v2 v3)) := by
  intro p v1 v2 v3 d4 hg H
  exact rwV (n := 3000) (q := 12) (la := [zR 12 1, zI v1, zI v2, zI v3, d4]) (sa := []) (ks := [fun la sa s => kv4 s (ai la 1) (ai la 2), fun la sa s => kv12 s (ai la 1) (ai la 2) (ai la 3)]) (gs := [fun la sa s => zsw (tc2 la [(112, 1), (0, 0), (0, 0), (2, 0), (2, 0)] && tc2 sa []) False (kg4 s (ai la 1) (ai la 2)), fun la sa s => zsw (tc2 la [(112, 1), (0, 0), (0, 0), (0, 0), (2, 0)] && tc2 sa []) False (kg12 s (ai la 1) (ai la 2) (ai la 3))]) (fcons o265 (fnil)) tab266 pc266 ⟨fun la sa s hg H => zcut H fun H => hk4 s (ai la 1) (ai la 2) (zld la 3) (zld la 4) hg H, fun la sa s hg H => zcut H fun H => hk12 s (ai la 1) (ai la 2) (ai la 3) (zld la 4) hg H, trivial⟩ hg H
theorem t12_pegsAll_12 (kv4 : PM → Int32 → Int32 → PM) (kg4 : PM → Int32 → Int32 → Prop) (hk4 : ∀ (p : PM) (v1 : Int32) (v2 : Int32) (d3 d4 : ZV), Gr 2 p → kg4 p v1 v2 → ZJ 2 266 4 [zR 12 1, zI v1, zI v2, d3, d4] [] p (hwV (kv4 p v1 v2))) : ∀ (n : Nat), ∀ (p : PM) (v1 : Int32) (v2 : Int32) (v3 : Int32) (d4 : ZV), Gr 2 p → g12_pegsAll_12 kg4 n p v1 v2 v3 → ZJ 2 266 12 [zR 12 1, zI v1, zI v2, zI v3, d4] [] p (hwV (v12_pegsAll_12 kv4 n p v1 v2 v3)) := by
  intro n
  induction n with
  | zero =>
    intro p v1 v2 v3 d4 hg H
    exact H.elim
  | succ n ih => exact r12_pegsAll_12 v12_pegs g12_pegs ok265 kv4 kg4 hk4 (v12_pegsAll_12 kv4 n) (g12_pegsAll_12 kg4 n) ih
set_option maxRecDepth 100000 in
theorem r12_pegsAll_4 (F265 : PM → Int32 → PM) (G265 : PM → Int32 → Prop) (o265 : CalOK 2 (CC265 F265 G265)) (kv12 : PM → Int32 → Int32 → Int32 → PM) (kg12 : PM → Int32 → Int32 → Int32 → Prop) (hk12 : ∀ (p : PM) (v1 : Int32) (v2 : Int32) (v3 : Int32) (d4 : ZV), Gr 2 p → kg12 p v1 v2 v3 → ZJ 2 266 12 [zR 12 1, zI v1, zI v2, zI v3, d4] [] p (hwV (kv12 p v1 v2 v3))) : ∀ (p : PM) (v1 : Int32) (v2 : Int32) (d3 d4 : ZV), Gr 2 p → bg12_pegsAll_4 kg12 p v1 v2 → ZJ 2 266 4 [zR 12 1, zI v1, zI v2, d3, d4] [] p (hwV (bv12_pegsAll_4 kv12 p v1 v2)) := by
  intro p v1 v2 d3 d4 hg H
  exact rwV (n := 3000) (q := 4) (la := [zR 12 1, zI v1, zI v2, d3, d4]) (sa := []) (ks := [fun _ _ s => s, fun la sa s => kv12 s (ai la 1) (ai la 2) (ai la 3)]) (gs := [fun _ _ _ => False, fun la sa s => zsw (tc2 la [(112, 1), (0, 0), (0, 0), (0, 0), (2, 0)] && tc2 sa []) False (kg12 s (ai la 1) (ai la 2) (ai la 3))]) (fcons o265 (fnil)) tab266 pc266 ⟨fun _ _ _ _ H => H.elim, fun la sa s hg H => zcut H fun H => hk12 s (ai la 1) (ai la 2) (ai la 3) (zld la 4) hg H, trivial⟩ hg H
theorem t12_pegsAll_4 : ∀ (n : Nat), ∀ (p : PM) (v1 : Int32) (v2 : Int32) (d3 d4 : ZV), Gr 2 p → g12_pegsAll_4 n p v1 v2 → ZJ 2 266 4 [zR 12 1, zI v1, zI v2, d3, d4] [] p (hwV (v12_pegsAll_4 n p v1 v2)) := by
  intro n
  induction n with
  | zero =>
    intro p v1 v2 d3 d4 hg H
    exact H.elim
  | succ n ih => exact r12_pegsAll_4 v12_pegs g12_pegs ok265 (v12_pegsAll_12 (v12_pegsAll_4 n) FU) (g12_pegsAll_12 (g12_pegsAll_4 n) FU) (t12_pegsAll_12 (v12_pegsAll_4 n) (g12_pegsAll_4 n) ih FU)
set_option maxRecDepth 100000 in
theorem r12_pegsAll (F265 : PM → Int32 → PM) (G265 : PM → Int32 → Prop) (o265 : CalOK 2 (CC265 F265 G265)) (kv4 : PM → Int32 → Int32 → PM) (kg4 : PM → Int32 → Int32 → Prop) (hk4 : ∀ (p : PM) (v1 : Int32) (v2 : Int32) (d3 d4 : ZV), Gr 2 p → kg4 p v1 v2 → ZJ 2 266 4 [zR 12 1, zI v1, zI v2, d3, d4] [] p (hwV (kv4 p v1 v2))) : ∀ (p : PM), Gr 2 p → bg12_pegsAll kg4 p → ZJ 2 266 0 [zR 12 1, zJ, zJ, zJ, zJ] [] p (hwV (bv12_pegsAll kv4 p)) := by
  intro p   hg H
  exact rwV (n := 3000) (q := 0) (la := [zR 12 1, zJ, zJ, zJ, zJ]) (sa := []) (ks := [fun la sa s => kv4 s (ai la 1) (ai la 2), fun _ _ s => s]) (gs := [fun la sa s => zsw (tc2 la [(112, 1), (0, 0), (0, 0), (2, 0), (2, 0)] && tc2 sa []) False (kg4 s (ai la 1) (ai la 2)), fun _ _ _ => False]) (fcons o265 (fnil)) tab266 pc266 ⟨fun la sa s hg H => zcut H fun H => hk4 s (ai la 1) (ai la 2) (zld la 3) (zld la 4) hg H, fun _ _ _ _ H => H.elim, trivial⟩ hg H
theorem t12_pegsAll : ∀ (p : PM), Gr 2 p → g12_pegsAll p → ZJ 2 266 0 [zR 12 1, zJ, zJ, zJ, zJ] [] p (hwV (v12_pegsAll p)) := r12_pegsAll v12_pegs g12_pegs ok265 (v12_pegsAll_4 FU) (g12_pegsAll_4 FU) (t12_pegsAll_4 FU)
def CC266 (F : PM → PM) (G : PM → Prop) : Cal := (266, [15], 0, false, fun as p => (zJ, (F p )), fun as p => zsw (tc2 as [(112, 1)]) False (G p ))
set_option maxRecDepth 100000 in
theorem okr266 (F : PM → PM) (G : PM → Prop) (h : ∀ (p : PM), Gr 2 p → G p  → ZJ 2 266 0 [zR 12 1, zJ, zJ, zJ, zJ] [] p (hwV (F p ))) : CalOK 2 (CC266 F G) := cal_ok (m := 5) (by unfold mL; rw [mX_266]) (fun as p hg H => h p  hg H)
theorem ok266 : CalOK 2 (CC266 v12_pegsAll g12_pegsAll) := okr266 v12_pegsAll g12_pegsAll t12_pegsAll
noncomputable def bv12_works_11 (F235 : PM → Int32 → Int32) (F256 : PM → Int32 → PM) (F258 : PM → Int32) (F264 : PM → Int32 × PM) (kv2 : PM → Int32 → PM) (kv11 : PM → Int32 → PM) (p : PM) (v2 : Int32) : PM :=
  if v2 < 0 then (
    let r1 : Int32 × PM := F264 p
    kv2 r1.2 r1.1)
  else (
    let p2 : PM := pI p 13 28 (v2).toNatClampNeg (F235 p (p.1 13 16 (v2).toNatClampNeg))
    let p3 : PM := F256 p2 v2
    kv11 p3 (F258 p3))
noncomputable def v12_works_11 (kv2 : PM → Int32 → PM) (n : Nat) : PM → Int32 → PM := Nat.rec (motive := fun _ => PM → Int32 → PM) (fun p _ => p) (fun _ ih => bv12_works_11 v12_latest v12_matches v12_readyStop v12_combines kv2 ih) n
theorem ev12_works_11 (kv2 : PM → Int32 → PM) (n : Nat) (p : PM) (v2 : Int32) : v12_works_11 kv2 (n + 1) p v2 = bv12_works_11 v12_latest v12_matches v12_readyStop v12_combines kv2 (v12_works_11 kv2 n) p v2 := rfl
noncomputable def bg12_works_11 (F235 : PM → Int32 → Int32) (G235 : PM → Int32 → Prop) (F256 : PM → Int32 → PM) (G256 : PM → Int32 → Prop) (F258 : PM → Int32) (G258 : PM → Prop) (F264 : PM → Int32 × PM) (G264 : PM → Prop) (kg2 : PM → Int32 → Prop) (kg11 : PM → Int32 → Prop) (p : PM) (v2 : Int32) : Prop :=
  if v2 < 0 then (
    (G264 p) ∧ (
    let r1 : Int32 × PM := F264 p
    kg2 r1.2 r1.1))
  else (
    (inb v2 44) ∧ (
    (G235 p (p.1 13 16 (v2).toNatClampNeg)) ∧ (
    (inb v2 44) ∧ (
    let p2 : PM := pI p 13 28 (v2).toNatClampNeg (F235 p (p.1 13 16 (v2).toNatClampNeg))
    (G256 p2 v2) ∧ (
    let p3 : PM := F256 p2 v2
    (G258 p3) ∧ (
    kg11 p3 (F258 p3)))))))
noncomputable def g12_works_11 (kg2 : PM → Int32 → Prop) (n : Nat) : PM → Int32 → Prop := Nat.rec (motive := fun _ => PM → Int32 → Prop) (fun _ _ => False) (fun _ ih => bg12_works_11 v12_latest g12_latest v12_matches g12_matches v12_readyStop g12_readyStop v12_combines g12_combines kg2 ih) n
theorem eg12_works_11 (kg2 : PM → Int32 → Prop) (n : Nat) (p : PM) (v2 : Int32) : g12_works_11 kg2 (n + 1) p v2 = bg12_works_11 v12_latest g12_latest v12_matches g12_matches v12_readyStop g12_readyStop v12_combines g12_combines kg2 (g12_works_11 kg2 n) p v2 := rfl
noncomputable def bv12_works_2 (F258 : PM → Int32) (F266 : PM → PM) (kv11 : PM → Int32 → PM) (p : PM) (v1 : Int32) : PM :=
  if v1 = 0 then (
    let p1 : PM := F266 p
    p1)
  else (
    kv11 p (F258 p))
noncomputable def v12_works_2 (n : Nat) : PM → Int32 → PM := Nat.rec (motive := fun _ => PM → Int32 → PM) (fun p _ => p) (fun _ ih => bv12_works_2 v12_readyStop v12_pegsAll (v12_works_11 ih FU)) n
theorem ev12_works_2 (n : Nat) (p : PM) (v1 : Int32) : v12_works_2 (n + 1) p v1 = bv12_works_2 v12_readyStop v12_pegsAll (v12_works_11 (v12_works_2 n) FU) p v1 := rfl
noncomputable def bg12_works_2 (F258 : PM → Int32) (G258 : PM → Prop) (F266 : PM → PM) (G266 : PM → Prop) (kg11 : PM → Int32 → Prop) (p : PM) (v1 : Int32) : Prop :=
  if v1 = 0 then (
    (G266 p) ∧ (
    let p1 : PM := F266 p
    True))
  else (
    (G258 p) ∧ (
    kg11 p (F258 p)))
noncomputable def g12_works_2 (n : Nat) : PM → Int32 → Prop := Nat.rec (motive := fun _ => PM → Int32 → Prop) (fun _ _ => False) (fun _ ih => bg12_works_2 v12_readyStop g12_readyStop v12_pegsAll g12_pegsAll (g12_works_11 ih FU)) n
theorem eg12_works_2 (n : Nat) (p : PM) (v1 : Int32) : g12_works_2 (n + 1) p v1 = bg12_works_2 v12_readyStop g12_readyStop v12_pegsAll g12_pegsAll (g12_works_11 (g12_works_2 n) FU) p v1 := rfl
noncomputable def bv12_works (kv2 : PM → Int32 → PM) (p : PM) : PM :=
  kv2 p (cn 1)
noncomputable def v12_works (p : PM) : PM := bv12_works (v12_works_2 FU) p
noncomputable def bg12_works (kg2 : PM → Int32 → Prop) (p : PM) : Prop :=
  kg2 p (cn 1)
noncomputable def g12_works (p : PM) : Prop := bg12_works (g12_works_2 FU) p
def R267 : List Row := [(0, .iconst 1, 1, 0, (0, 0, 0, 0, 0, 1)), (1, .istore_n 1, 1, 0, (0, 0, 0, 0, 0, 0)), (2, .iload_n 1, 1, 1, (0, 0, 0, 0, 0, 0)), (3, .ifCond .eq 49, 3, 0, (0, 0, 0, 0, 0, 0)), (6, .aload_n 0, 1, 0, (0, 0, 0, 0, 0, 0)), (7, .invokevirtual 358, 3, 0, (1, 1, 0, 0, 1, 0)), (10, .istore_n 2, 1, 0, (0, 0, 0, 0, 0, 0)), (11, .iload_n 2, 1, 2, (0, 0, 0, 0, 0, 0)), (12, .ifCond .lt 32, 3, 0, (0, 0, 0, 0, 0, 0)), (15, .aload_n 0, 1, 0, (0, 0, 0, 0, 0, 0)), (16, .getfield 111, 3, 0, (12, 36, 16, 2, 28, 0)), (19, .iload_n 2, 1, 0, (0, 0, 0, 0, 0, 0)), (20, .aload_n 0, 1, 0, (0, 0, 0, 0, 0, 0)), (21, .aload_n 0, 1, 0, (0, 0, 0, 0, 0, 0)), (22, .getfield 69, 3, 0, (12, 22, 16, 2, 16, 0)), (25, .iload_n 2, 1, 0, (0, 0, 0, 0, 0, 0)), (26, .iaload, 1, 0, (13, 44, 0, 0, 0, 0)), (27, .invokevirtual 362, 3, 0, (3, 2, 0, 0, 1, 0)), (30, .iastore, 1, 0, (13, 44, 0, 0, 0, 0)), (31, .aload_n 0, 1, 0, (0, 0, 0, 0, 0, 0)), (32, .iload_n 2, 1, 0, (0, 0, 0, 0, 0, 0)), (33, .invokevirtual 331, 3, 0, (4, 2, 0, 0, 1, 0)), (36, .aload_n 0, 1, 0, (0, 0, 0, 0, 0, 0)), (37, .invokevirtual 358, 3, 0, (1, 1, 0, 0, 1, 0)), (40, .istore_n 2, 1, 0, (0, 0, 0, 0, 0, 0)), (41, .goto (-30), 3, 0, (0, 0, 0, 0, 0, 0)), (44, .aload_n 0, 1, 0, (0, 0, 0, 0, 0, 0)), (45, .invokevirtual 365, 3, 0, (2, 1, 0, 0, 1, 0)), (48, .istore_n 1, 1, 0, (0, 0, 0, 0, 0, 0)), (49, .goto (-47), 3, 0, (0, 0, 0, 0, 0, 0)), (52, .aload_n 0, 1, 0, (0, 0, 0, 0, 0, 0)), (53, .invokevirtual 369, 3, 0, (0, 1, 0, 0, 1, 0)), (56, .return_, 1, 0, (0, 0, 0, 0, 0, 0))]
set_option maxRecDepth 100000 in
theorem rk267 : R267.all (rok 2 267 0 [(266, [15]), (258, [15]), (264, [15]), (235, [15, 0]), (256, [15, 0])]) = true := by decide +kernel
set_option maxRecDepth 100000 in
theorem tab267 {F266 : PM → PM} {G266 : PM → Prop} {F258 : PM → Int32} {G258 : PM → Prop} {F264 : PM → Int32 × PM} {G264 : PM → Prop} {F235 : PM → Int32 → Int32} {G235 : PM → Int32 → Prop} {F256 : PM → Int32 → PM} {G256 : PM → Int32 → Prop} : TabOK 2 267 0 [CC266 F266 G266, CC258 F258 G258, CC264 F264 G264, CC235 F235 G235, CC256 F256 G256] R267 := tab_ok (K := K267) rfl rfl (fun h => d267 h) rk267 (by decide +kernel)
set_option maxRecDepth 100000 in
theorem pc267 : cutpc [2, 11] R267 = true := by decide +kernel
set_option maxRecDepth 100000 in
theorem r12_works_11 (F266 : PM → PM) (G266 : PM → Prop) (o266 : CalOK 2 (CC266 F266 G266)) (F258 : PM → Int32) (G258 : PM → Prop) (o258 : CalOK 2 (CC258 F258 G258)) (F264 : PM → Int32 × PM) (G264 : PM → Prop) (o264 : CalOK 2 (CC264 F264 G264)) (F235 : PM → Int32 → Int32) (G235 : PM → Int32 → Prop) (o235 : CalOK 2 (CC235 F235 G235)) (F256 : PM → Int32 → PM) (G256 : PM → Int32 → Prop) (o256 : CalOK 2 (CC256 F256 G256)) (kv2 : PM → Int32 → PM) (kg2 : PM → Int32 → Prop) (hk2 : ∀ (p : PM) (v1 : Int32) (d2 : ZV), Gr 2 p → kg2 p v1 → ZJ 2 267 2 [zR 12 1, zI v1, d2] [] p (hwV (kv2 p v1))) (kv11 : PM → Int32 → PM) (kg11 : PM → Int32 → Prop) (hk11 : ∀ (p : PM) (v2 : Int32) (d1 : ZV), Gr 2 p → kg11 p v2 → ZJ 2 267 11 [zR 12 1, d1, zI v2] [] p (hwV (kv11 p v2))) : ∀ (p : PM) (v2 : Int32) (d1 : ZV), Gr 2 p → bg12_works_11 F235 G235 F256 G256 F258 G258 F264 G264 kg2 kg11 p v2 → ZJ 2 267 11 [zR 12 1, d1, zI v2] [] p (hwV (bv12_works_11 F235 F256 F258 F264 kv2 kv11 p v2)) := by
  intro p v2 d1 hg H
  exact rwV (n := 3000) (q := 11) (la := [zR 12 1, d1, zI v2]) (sa := []) (ks := [fun la sa s => kv2 s (ai la 1), fun la sa s => kv11 s (ai la 2)]) (gs := [fun la sa s => zsw (tc2 la [(112, 1), (0, 0), (2, 0)] && tc2 sa []) False (kg2 s (ai la 1)), fun la sa s => zsw (tc2 la [(112, 1), (2, 0), (0, 0)] && tc2 sa []) False (kg11 s (ai la 2))]) (fcons o266 (fcons o258 (fcons o264 (fcons o235 (fcons o256 (fnil)))))) tab267 pc267 ⟨fun la sa s hg H => zcut H fun H => hk2 s (ai la 1) (zld la 2) hg H, fun la sa s hg H => zcut H fun H => hk11 s (ai la 2) (zld la 1) hg H, trivial⟩ hg H
theorem t12_works_11 (kv2 : PM → Int32 → PM) (kg2 : PM → Int32 → Prop) (hk2 : ∀ (p : PM) (v1 : Int32) (d2 : ZV), Gr 2 p → kg2 p v1 → ZJ 2 267 2 [zR 12 1, zI v1, d2] [] p (hwV (kv2 p v1))) : ∀ (n : Nat), ∀ (p : PM) (v2 : Int32) (d1 : ZV), Gr 2 p → g12_works_11 kg2 n p v2 → ZJ 2 267 11 [zR 12 1, d1, zI v2] [] p (hwV (v12_works_11 kv2 n p v2)) := by
  intro n
  induction n with
  | zero =>
    intro p v2 d1 hg H
    exact H.elim
  | succ n ih => exact r12_works_11 v12_pegsAll g12_pegsAll ok266 v12_readyStop g12_readyStop ok258 v12_combines g12_combines ok264 v12_latest g12_latest ok235 v12_matches g12_matches ok256 kv2 kg2 hk2 (v12_works_11 kv2 n) (g12_works_11 kg2 n) ih
set_option maxRecDepth 100000 in
theorem r12_works_2 (F266 : PM → PM) (G266 : PM → Prop) (o266 : CalOK 2 (CC266 F266 G266)) (F258 : PM → Int32) (G258 : PM → Prop) (o258 : CalOK 2 (CC258 F258 G258)) (F264 : PM → Int32 × PM) (G264 : PM → Prop) (o264 : CalOK 2 (CC264 F264 G264)) (F235 : PM → Int32 → Int32) (G235 : PM → Int32 → Prop) (o235 : CalOK 2 (CC235 F235 G235)) (F256 : PM → Int32 → PM) (G256 : PM → Int32 → Prop) (o256 : CalOK 2 (CC256 F256 G256)) (kv11 : PM → Int32 → PM) (kg11 : PM → Int32 → Prop) (hk11 : ∀ (p : PM) (v2 : Int32) (d1 : ZV), Gr 2 p → kg11 p v2 → ZJ 2 267 11 [zR 12 1, d1, zI v2] [] p (hwV (kv11 p v2))) : ∀ (p : PM) (v1 : Int32) (d2 : ZV), Gr 2 p → bg12_works_2 F258 G258 F266 G266 kg11 p v1 → ZJ 2 267 2 [zR 12 1, zI v1, d2] [] p (hwV (bv12_works_2 F258 F266 kv11 p v1)) := by
  intro p v1 d2 hg H
  exact rwV (n := 3000) (q := 2) (la := [zR 12 1, zI v1, d2]) (sa := []) (ks := [fun _ _ s => s, fun la sa s => kv11 s (ai la 2)]) (gs := [fun _ _ _ => False, fun la sa s => zsw (tc2 la [(112, 1), (2, 0), (0, 0)] && tc2 sa []) False (kg11 s (ai la 2))]) (fcons o266 (fcons o258 (fcons o264 (fcons o235 (fcons o256 (fnil)))))) tab267 pc267 ⟨fun _ _ _ _ H => H.elim, fun la sa s hg H => zcut H fun H => hk11 s (ai la 2) (zld la 1) hg H, trivial⟩ hg H
theorem t12_works_2 : ∀ (n : Nat), ∀ (p : PM) (v1 : Int32) (d2 : ZV), Gr 2 p → g12_works_2 n p v1 → ZJ 2 267 2 [zR 12 1, zI v1, d2] [] p (hwV (v12_works_2 n p v1)) := by
  intro n
  induction n with
  | zero =>
    intro p v1 d2 hg H
    exact H.elim
  | succ n ih => exact r12_works_2 v12_pegsAll g12_pegsAll ok266 v12_readyStop g12_readyStop ok258 v12_combines g12_combines ok264 v12_latest g12_latest ok235 v12_matches g12_matches ok256 (v12_works_11 (v12_works_2 n) FU) (g12_works_11 (g12_works_2 n) FU) (t12_works_11 (v12_works_2 n) (g12_works_2 n) ih FU)
set_option maxRecDepth 100000 in
theorem r12_works (F266 : PM → PM) (G266 : PM → Prop) (o266 : CalOK 2 (CC266 F266 G266)) (F258 : PM → Int32) (G258 : PM → Prop) (o258 : CalOK 2 (CC258 F258 G258)) (F264 : PM → Int32 × PM) (G264 : PM → Prop) (o264 : CalOK 2 (CC264 F264 G264)) (F235 : PM → Int32 → Int32) (G235 : PM → Int32 → Prop) (o235 : CalOK 2 (CC235 F235 G235)) (F256 : PM → Int32 → PM) (G256 : PM → Int32 → Prop) (o256 : CalOK 2 (CC256 F256 G256)) (kv2 : PM → Int32 → PM) (kg2 : PM → Int32 → Prop) (hk2 : ∀ (p : PM) (v1 : Int32) (d2 : ZV), Gr 2 p → kg2 p v1 → ZJ 2 267 2 [zR 12 1, zI v1, d2] [] p (hwV (kv2 p v1))) : ∀ (p : PM), Gr 2 p → bg12_works kg2 p → ZJ 2 267 0 [zR 12 1, zJ, zJ] [] p (hwV (bv12_works kv2 p)) := by
  intro p   hg H
  exact rwV (n := 3000) (q := 0) (la := [zR 12 1, zJ, zJ]) (sa := []) (ks := [fun la sa s => kv2 s (ai la 1), fun _ _ s => s]) (gs := [fun la sa s => zsw (tc2 la [(112, 1), (0, 0), (2, 0)] && tc2 sa []) False (kg2 s (ai la 1)), fun _ _ _ => False]) (fcons o266 (fcons o258 (fcons o264 (fcons o235 (fcons o256 (fnil)))))) tab267 pc267 ⟨fun la sa s hg H => zcut H fun H => hk2 s (ai la 1) (zld la 2) hg H, fun _ _ _ _ H => H.elim, trivial⟩ hg H
theorem t12_works : ∀ (p : PM), Gr 2 p → g12_works p → ZJ 2 267 0 [zR 12 1, zJ, zJ] [] p (hwV (v12_works p)) := r12_works v12_pegsAll g12_pegsAll ok266 v12_readyStop g12_readyStop ok258 v12_combines g12_combines ok264 v12_latest g12_latest ok235 v12_matches g12_matches ok256 (v12_works_2 FU) (g12_works_2 FU) (t12_works_2 FU)
def CC267 (F : PM → PM) (G : PM → Prop) : Cal := (267, [15], 0, false, fun as p => (zJ, (F p )), fun as p => zsw (tc2 as [(112, 1)]) False (G p ))
set_option maxRecDepth 100000 in
theorem okr267 (F : PM → PM) (G : PM → Prop) (h : ∀ (p : PM), Gr 2 p → G p  → ZJ 2 267 0 [zR 12 1, zJ, zJ] [] p (hwV (F p ))) : CalOK 2 (CC267 F G) := cal_ok (m := 3) (by unfold mL; rw [mX_267]) (fun as p hg H => h p  hg H)
theorem ok267 : CalOK 2 (CC267 v12_works g12_works) := okr267 v12_works g12_works t12_works
noncomputable def bv12_wants_6 (p : PM) (F238 : PM → Int32 → Int32 → Int32 → Int32) (F239 : PM → Int32 → Int32 → Int32 → Int32) (kv6 : Int32 → Int32 → Int32 → Int32 → Int32 → Int32) (v1 : Int32) (v2 : Int32) (v3 : Int32) (v4 : Int32) (v5 : Int32) : Int32 :=
  if v5 < (cn 44) then (
    if (F238 p v5 v1 v2) = 0 then (
      kv6 v1 v2 v3 (v4 + (cn 0)) (v5 + (cn 1)))
    else (
      if (p.1 15 5 (v5).toNatClampNeg) = 0 then (
        if (F239 p v3 (p.1 13 25 (v5).toNatClampNeg) v2) = 0 then (
          let x2 : Int32 := (v4 + (p.1 13 17 (v5).toNatClampNeg))
          kv6 v1 v2 v3 x2 (v5 + (cn 1)))
        else (
          kv6 v1 v2 v3 (v4 + (cn 0)) (v5 + (cn 1))))
      else (
        let x1 : Int32 := (v4 + (p.1 13 17 (v5).toNatClampNeg))
        kv6 v1 v2 v3 x1 (v5 + (cn 1)))))
  else (
    v4)
noncomputable def v12_wants_6 (p : PM) (n : Nat) : Int32 → Int32 → Int32 → Int32 → Int32 → Int32 := Nat.rec (motive := fun _ => Int32 → Int32 → Int32 → Int32 → Int32 → Int32) (fun _ _ _ _ _ => 0) (fun _ ih => bv12_wants_6 p v12_isThere v12_isBetter ih) n
theorem ev12_wants_6 (p : PM) (n : Nat) (v1 : Int32) (v2 : Int32) (v3 : Int32) (v4 : Int32) (v5 : Int32) : v12_wants_6 p (n + 1) v1 v2 v3 v4 v5 = bv12_wants_6 p v12_isThere v12_isBetter (v12_wants_6 p n) v1 v2 v3 v4 v5 := rfl
noncomputable def bg12_wants_6 (p : PM) (F238 : PM → Int32 → Int32 → Int32 → Int32) (G238 : PM → Int32 → Int32 → Int32 → Prop) (F239 : PM → Int32 → Int32 → Int32 → Int32) (G239 : PM → Int32 → Int32 → Int32 → Prop) (kg6 : Int32 → Int32 → Int32 → Int32 → Int32 → Prop) (v1 : Int32) (v2 : Int32) (v3 : Int32) (v4 : Int32) (v5 : Int32) : Prop :=
  if v5 < (cn 44) then (
    (G238 p v5 v1 v2) ∧ (
    if (F238 p v5 v1 v2) = 0 then (
      kg6 v1 v2 v3 (v4 + (cn 0)) (v5 + (cn 1)))
    else (
      (inb v5 44) ∧ (
      if (p.1 15 5 (v5).toNatClampNeg) = 0 then (
        (inb v5 44) ∧ (
        (G239 p v3 (p.1 13 25 (v5).toNatClampNeg) v2) ∧ (
        if (F239 p v3 (p.1 13 25 (v5).toNatClampNeg) v2) = 0 then (
          (inb v5 44) ∧ (
          let x2 : Int32 := (v4 + (p.1 13 17 (v5).toNatClampNeg))
          kg6 v1 v2 v3 x2 (v5 + (cn 1))))
        else (
          kg6 v1 v2 v3 (v4 + (cn 0)) (v5 + (cn 1))))))
      else (
        (inb v5 44) ∧ (
        let x1 : Int32 := (v4 + (p.1 13 17 (v5).toNatClampNeg))
        kg6 v1 v2 v3 x1 (v5 + (cn 1))))))))
  else (
    True)
noncomputable def g12_wants_6 (p : PM) (n : Nat) : Int32 → Int32 → Int32 → Int32 → Int32 → Prop := Nat.rec (motive := fun _ => Int32 → Int32 → Int32 → Int32 → Int32 → Prop) (fun _ _ _ _ _ => False) (fun _ ih => bg12_wants_6 p v12_isThere g12_isThere v12_isBetter g12_isBetter ih) n
theorem eg12_wants_6 (p : PM) (n : Nat) (v1 : Int32) (v2 : Int32) (v3 : Int32) (v4 : Int32) (v5 : Int32) : g12_wants_6 p (n + 1) v1 v2 v3 v4 v5 = bg12_wants_6 p v12_isThere g12_isThere v12_isBetter g12_isBetter (g12_wants_6 p n) v1 v2 v3 v4 v5 := rfl
noncomputable def bv12_wants (p : PM) (kv6 : Int32 → Int32 → Int32 → Int32 → Int32 → Int32) (v1 : Int32) (v2 : Int32) (v3 : Int32) : Int32 :=
  kv6 v1 v2 v3 (cn 0) (cn 0)
noncomputable def v12_wants (p : PM) (v1 : Int32) (v2 : Int32) (v3 : Int32) : Int32 := bv12_wants p (v12_wants_6 p FU) v1 v2 v3
noncomputable def bg12_wants (p : PM) (kg6 : Int32 → Int32 → Int32 → Int32 → Int32 → Prop) (v1 : Int32) (v2 : Int32) (v3 : Int32) : Prop :=
  kg6 v1 v2 v3 (cn 0) (cn 0)
noncomputable def g12_wants (p : PM) (v1 : Int32) (v2 : Int32) (v3 : Int32) : Prop := bg12_wants p (g12_wants_6 p FU) v1 v2 v3
def R268 : List Row := [(0, .iconst 0, 1, 0, (0, 0, 0, 0, 0, 0)), (1, .istore 4, 2, 0, (0, 0, 0, 0, 0, 0)), (3, .iconst 0, 1, 0, (0, 0, 0, 0, 0, 0)), (4, .istore 5, 2, 0, (0, 0, 0, 0, 0, 0)), (6, .iload 5, 2, 1, (0, 0, 0, 0, 0, 0)), (8, .bipush 44, 2, 0, (0, 0, 0, 0, 0, 44)), (10, .if_icmp .ge 61, 3, 0, (0, 0, 0, 0, 0, 0)), (13, .iload 4, 2, 0, (0, 0, 0, 0, 0, 0)), (15, .aload_n 0, 1, 0, (0, 0, 0, 0, 0, 0)), (16, .iload 5, 2, 0, (0, 0, 0, 0, 0, 0)), (18, .iload_n 1, 1, 0, (0, 0, 0, 0, 0, 0)), (19, .iload_n 2, 1, 0, (0, 0, 0, 0, 0, 0)), (20, .invokevirtual 244, 3, 0, (0, 4, 0, 0, 1, 0)), (23, .ifCond .eq 38, 3, 0, (0, 0, 0, 0, 0, 0)), (26, .aload_n 0, 1, 0, (0, 0, 0, 0, 0, 0)), (27, .getfield 78, 3, 0, (12, 25, 18, 2, 5, 0)), (30, .iload 5, 2, 0, (0, 0, 0, 0, 0, 0)), (32, .baload, 1, 0, (15, 44, 0, 0, 0, 0)), (33, .ifCond .ne 18, 3, 0, (0, 0, 0, 0, 0, 0)), (36, .iload_n 3, 1, 0, (0, 0, 0, 0, 0, 0)), (37, .aload_n 0, 1, 0, (0, 0, 0, 0, 0, 0)), (38, .getfield 102, 3, 0, (12, 33, 16, 2, 25, 0)), (41, .iload 5, 2, 0, (0, 0, 0, 0, 0, 0)), (43, .iaload, 1, 0, (13, 44, 0, 0, 0, 0)), (44, .iload_n 2, 1, 0, (0, 0, 0, 0, 0, 0)), (45, .invokestatic 248, 3, 0, (1, 3, 0, 0, 0, 0)), (48, .ifCond .ne 13, 3, 0, (0, 0, 0, 0, 0, 0)), (51, .aload_n 0, 1, 0, (0, 0, 0, 0, 0, 0)), (52, .getfield 75, 3, 0, (12, 24, 16, 2, 17, 0)), (55, .iload 5, 2, 0, (0, 0, 0, 0, 0, 0)), (57, .iaload, 1, 0, (13, 44, 0, 0, 0, 0)), (58, .goto 4, 3, 0, (0, 0, 0, 0, 0, 0)), (61, .iconst 0, 1, 0, (0, 0, 0, 0, 0, 0)), (62, .iadd, 1, 0, (0, 0, 0, 0, 0, 0)), (63, .istore 4, 2, 0, (0, 0, 0, 0, 0, 0)), (65, .iinc 5 1, 3, 0, (0, 0, 0, 0, 0, 1)), (68, .goto (-62), 3, 0, (0, 0, 0, 0, 0, 0)), (71, .iload 4, 2, 0, (0, 0, 0, 0, 0, 0)), (73, .ireturn, 1, 0, (0, 0, 0, 0, 0, 0))]
set_option maxRecDepth 100000 in
theorem rk268 : R268.all (rok 2 268 1 [(238, [15, 0, 0, 0]), (239, [0, 0, 0])]) = true := by decide +kernel
set_option maxRecDepth 100000 in
theorem tab268 {F238 : PM → Int32 → Int32 → Int32 → Int32} {G238 : PM → Int32 → Int32 → Int32 → Prop} {F239 : PM → Int32 → Int32 → Int32 → Int32} {G239 : PM → Int32 → Int32 → Int32 → Prop} : TabOK 2 268 1 [CC238 F238 G238, CC239 F239 G239] R268 := tab_ok (K := K268) rfl rfl (fun h => d268 h) rk268 (by decide +kernel)
set_option maxRecDepth 100000 in
theorem pc268 : cutpc [6] R268 = true := by decide +kernel
set_option maxRecDepth 100000 in
theorem r12_wants_6 (p : PM) (hg : Gr 2 p) (F238 : PM → Int32 → Int32 → Int32 → Int32) (G238 : PM → Int32 → Int32 → Int32 → Prop) (o238 : CalOK 2 (CC238 F238 G238)) (F239 : PM → Int32 → Int32 → Int32 → Int32) (G239 : PM → Int32 → Int32 → Int32 → Prop) (o239 : CalOK 2 (CC239 F239 G239)) (kv6 : Int32 → Int32 → Int32 → Int32 → Int32 → Int32) (kg6 : Int32 → Int32 → Int32 → Int32 → Int32 → Prop) (hk6 : ∀ (v1 : Int32) (v2 : Int32) (v3 : Int32) (v4 : Int32) (v5 : Int32), kg6 v1 v2 v3 v4 v5 → ZJ 2 268 6 [zR 12 1, zI v1, zI v2, zI v3, zI v4, zI v5] [] p (hoI p (kv6 v1 v2 v3 v4 v5))) : ∀ (v1 : Int32) (v2 : Int32) (v3 : Int32) (v4 : Int32) (v5 : Int32), bg12_wants_6 p F238 G238 F239 G239 kg6 v1 v2 v3 v4 v5 → ZJ 2 268 6 [zR 12 1, zI v1, zI v2, zI v3, zI v4, zI v5] [] p (hoI p (bv12_wants_6 p F238 F239 kv6 v1 v2 v3 v4 v5)) := by
  intro v1 v2 v3 v4 v5  H
  exact roI (n := 3000) (q := 6) (la := [zR 12 1, zI v1, zI v2, zI v3, zI v4, zI v5]) (sa := []) (ks := [fun la sa _ => kv6 (ai la 1) (ai la 2) (ai la 3) (ai la 4) (ai la 5)]) (gs := [fun la sa _ => zsw (tc2 la [(112, 1), (0, 0), (0, 0), (0, 0), (0, 0), (0, 0)] && tc2 sa []) False (kg6 (ai la 1) (ai la 2) (ai la 3) (ai la 4) (ai la 5))]) (fcons o238 (fcons o239 (fnil))) tab268 pc268 ⟨fun la sa s hg H => zcut H fun H => hk6 (ai la 1) (ai la 2) (ai la 3) (ai la 4) (ai la 5) H, trivial⟩ hg H
theorem t12_wants_6 (p : PM) (hg : Gr 2 p) : ∀ (n : Nat), ∀ (v1 : Int32) (v2 : Int32) (v3 : Int32) (v4 : Int32) (v5 : Int32), g12_wants_6 p n v1 v2 v3 v4 v5 → ZJ 2 268 6 [zR 12 1, zI v1, zI v2, zI v3, zI v4, zI v5] [] p (hoI p (v12_wants_6 p n v1 v2 v3 v4 v5)) := by
  intro n
  induction n with
  | zero =>
    intro v1 v2 v3 v4 v5  H
    exact H.elim
  | succ n ih => exact r12_wants_6 p hg v12_isThere g12_isThere ok238 v12_isBetter g12_isBetter ok239 (v12_wants_6 p n) (g12_wants_6 p n) ih
set_option maxRecDepth 100000 in
theorem r12_wants (p : PM) (hg : Gr 2 p) (F238 : PM → Int32 → Int32 → Int32 → Int32) (G238 : PM → Int32 → Int32 → Int32 → Prop) (o238 : CalOK 2 (CC238 F238 G238)) (F239 : PM → Int32 → Int32 → Int32 → Int32) (G239 : PM → Int32 → Int32 → Int32 → Prop) (o239 : CalOK 2 (CC239 F239 G239)) (kv6 : Int32 → Int32 → Int32 → Int32 → Int32 → Int32) (kg6 : Int32 → Int32 → Int32 → Int32 → Int32 → Prop) (hk6 : ∀ (v1 : Int32) (v2 : Int32) (v3 : Int32) (v4 : Int32) (v5 : Int32), kg6 v1 v2 v3 v4 v5 → ZJ 2 268 6 [zR 12 1, zI v1, zI v2, zI v3, zI v4, zI v5] [] p (hoI p (kv6 v1 v2 v3 v4 v5))) : ∀ (v1 : Int32) (v2 : Int32) (v3 : Int32), bg12_wants p kg6 v1 v2 v3 → ZJ 2 268 0 [zR 12 1, zI v1, zI v2, zI v3, zJ, zJ] [] p (hoI p (bv12_wants p kv6 v1 v2 v3)) := by
  intro v1 v2 v3  H
  exact roI (n := 3000) (q := 0) (la := [zR 12 1, zI v1, zI v2, zI v3, zJ, zJ]) (sa := []) (ks := [fun la sa _ => kv6 (ai la 1) (ai la 2) (ai la 3) (ai la 4) (ai la 5)]) (gs := [fun la sa _ => zsw (tc2 la [(112, 1), (0, 0), (0, 0), (0, 0), (0, 0), (0, 0)] && tc2 sa []) False (kg6 (ai la 1) (ai la 2) (ai la 3) (ai la 4) (ai la 5))]) (fcons o238 (fcons o239 (fnil))) tab268 pc268 ⟨fun la sa s hg H => zcut H fun H => hk6 (ai la 1) (ai la 2) (ai la 3) (ai la 4) (ai la 5) H, trivial⟩ hg H
theorem t12_wants (p : PM) (hg : Gr 2 p) : ∀ (v1 : Int32) (v2 : Int32) (v3 : Int32), g12_wants p v1 v2 v3 → ZJ 2 268 0 [zR 12 1, zI v1, zI v2, zI v3, zJ, zJ] [] p (hoI p (v12_wants p v1 v2 v3)) := r12_wants p hg v12_isThere g12_isThere ok238 v12_isBetter g12_isBetter ok239 (v12_wants_6 p FU) (g12_wants_6 p FU) (t12_wants_6 p hg FU)
def CC268 (F : PM → Int32 → Int32 → Int32 → Int32) (G : PM → Int32 → Int32 → Int32 → Prop) : Cal := (268, [15, 0, 0, 0], 1, true, fun as p => (zI (F p (ai as 1) (ai as 2) (ai as 3)), p), fun as p => zsw (tc2 as [(112, 1), (0, 0), (0, 0), (0, 0)]) False (G p (ai as 1) (ai as 2) (ai as 3)))
set_option maxRecDepth 100000 in
theorem okr268 (F : PM → Int32 → Int32 → Int32 → Int32) (G : PM → Int32 → Int32 → Int32 → Prop) (h : ∀ (p : PM) (v1 : Int32) (v2 : Int32) (v3 : Int32), Gr 2 p → G p v1 v2 v3 → ZJ 2 268 0 [zR 12 1, zI v1, zI v2, zI v3, zJ, zJ] [] p (hoI p (F p v1 v2 v3))) : CalOK 2 (CC268 F G) := cal_ok (m := 6) (by unfold mL; rw [mX_268]) (fun as p hg H => h p (ai as 1) (ai as 2) (ai as 3) hg H)
theorem ok268 : CalOK 2 (CC268 v12_wants g12_wants) := okr268 v12_wants g12_wants (fun p v1 v2 v3 hg H => t12_wants p hg v1 v2 v3 H)
noncomputable def bv12_finds_221 (F216 : PM → Int32 → Int32) (kv15 : PM → Int32 → Int32 → Int32 → PM) (p : PM) (v1 : Int32) (v2 : Int32) (v3 : Int32) (v5 : Int32) (v6 : Int32) (v7 : Int32) : PM :=
  let p1 : PM := pI p 12 1 65 (p.1 13 25 (v3).toNatClampNeg)
  let p2 : PM := pI p1 12 1 64 v7
  kv15 p2 v1 (F216 p2 (v5 - v6)) (v3 + (cn 1))
noncomputable def v12_finds_221 (kv15 : PM → Int32 → Int32 → Int32 → PM) (p : PM) (v1 : Int32) (v2 : Int32) (v3 : Int32) (v5 : Int32) (v6 : Int32) (v7 : Int32) : PM := bv12_finds_221 v12_abs kv15 p v1 v2 v3 v5 v6 v7
noncomputable def bg12_finds_221 (F216 : PM → Int32 → Int32) (G216 : PM → Int32 → Prop) (kg15 : PM → Int32 → Int32 → Int32 → Prop) (p : PM) (v1 : Int32) (v2 : Int32) (v3 : Int32) (v5 : Int32) (v6 : Int32) (v7 : Int32) : Prop :=
  (inb v3 44) ∧ (
  let p1 : PM := pI p 12 1 65 (p.1 13 25 (v3).toNatClampNeg)
  let p2 : PM := pI p1 12 1 64 v7
  (G216 p2 (v5 - v6)) ∧ (
  kg15 p2 v1 (F216 p2 (v5 - v6)) (v3 + (cn 1))))
noncomputable def g12_finds_221 (kg15 : PM → Int32 → Int32 → Int32 → Prop) (p : PM) (v1 : Int32) (v2 : Int32) (v3 : Int32) (v5 : Int32) (v6 : Int32) (v7 : Int32) : Prop := bg12_finds_221 v12_abs g12_abs kg15 p v1 v2 v3 v5 v6 v7
noncomputable def bv12_finds_225 (kv15 : PM → Int32 → Int32 → Int32 → PM) (p : PM) (v1 : Int32) (v2 : Int32) (v3 : Int32) (v5 : Int32) (v6 : Int32) (v7 : Int32) : PM :=
  let p1 : PM := pI p 12 1 65 (p.1 12 1 65)
  let p2 : PM := pI p1 12 1 64 (p1.1 12 1 64)
  kv15 p2 v1 v2 (v3 + (cn 1))
noncomputable def v12_finds_225 (kv15 : PM → Int32 → Int32 → Int32 → PM) (p : PM) (v1 : Int32) (v2 : Int32) (v3 : Int32) (v5 : Int32) (v6 : Int32) (v7 : Int32) : PM := bv12_finds_225 kv15 p v1 v2 v3 v5 v6 v7
noncomputable def bg12_finds_225 (kg15 : PM → Int32 → Int32 → Int32 → Prop) (p : PM) (v1 : Int32) (v2 : Int32) (v3 : Int32) (v5 : Int32) (v6 : Int32) (v7 : Int32) : Prop :=
  let p1 : PM := pI p 12 1 65 (p.1 12 1 65)
  let p2 : PM := pI p1 12 1 64 (p1.1 12 1 64)
  kg15 p2 v1 v2 (v3 + (cn 1))
noncomputable def g12_finds_225 (kg15 : PM → Int32 → Int32 → Int32 → Prop) (p : PM) (v1 : Int32) (v2 : Int32) (v3 : Int32) (v5 : Int32) (v6 : Int32) (v7 : Int32) : Prop := bg12_finds_225 kg15 p v1 v2 v3 v5 v6 v7
noncomputable def bv12_finds_64 (F216 : PM → Int32 → Int32) (F244 : PM → Int32 → Int32 → Int32) (F268 : PM → Int32 → Int32 → Int32 → Int32) (kv15 : PM → Int32 → Int32 → Int32 → PM) (kv221 : PM → Int32 → Int32 → Int32 → Int32 → Int32 → Int32 → PM) (kv225 : PM → Int32 → Int32 → Int32 → Int32 → Int32 → Int32 → PM) (p : PM) (v1 : Int32) (v2 : Int32) (v3 : Int32) (s0 : Int32) : PM :=
  if s0 = 0 then (
    kv15 p v1 v2 (v3 + (cn 1)))
  else (
    let x1 : Int32 := (F268 p v1 (cn 1) (p.1 13 25 (v3).toNatClampNeg))
    let x2 : Int32 := (F268 p v1 (cn 0) (p.1 13 25 (v3).toNatClampNeg))
    let x3 : Int32 := (F216 p ((p.1 13 25 (v3).toNatClampNeg) - (p.1 13 11 (v1).toNatClampNeg)))
    let x4 : Int32 := (F216 p ((p.1 12 1 65) - (p.1 13 11 (v1).toNatClampNeg)))
    if (p.1 12 1 65) = (cn (-100000)) then (
      kv221 p v1 v2 v3 x1 x2 (F244 p x1 x2))
    else (
      if (p.1 12 1 64) < (F244 p x1 x2) then (
        kv221 p v1 v2 v3 x1 x2 (F244 p x1 x2))
      else (
        if (F244 p x1 x2) = (p.1 12 1 64) then (
          if (F216 p (x1 - x2)) < v2 then (
            kv221 p v1 v2 v3 x1 x2 (F244 p x1 x2))
          else (
            if (F216 p (x1 - x2)) = v2 then (
              if x3 < x4 then (
                kv221 p v1 v2 v3 x1 x2 (F244 p x1 x2))
              else (
                if x3 = x4 then (
                  if (p.1 13 25 (v3).toNatClampNeg) < (p.1 12 1 65) then (
                    kv221 p v1 v2 v3 x1 x2 (F244 p x1 x2))
                  else (
                    kv225 p v1 v2 v3 x1 x2 (F244 p x1 x2)))
                else (
                  kv225 p v1 v2 v3 x1 x2 (F244 p x1 x2))))
            else (
              kv225 p v1 v2 v3 x1 x2 (F244 p x1 x2))))
        else (
          kv225 p v1 v2 v3 x1 x2 (F244 p x1 x2)))))
noncomputable def v12_finds_64 (kv15 : PM → Int32 → Int32 → Int32 → PM) (p : PM) (v1 : Int32) (v2 : Int32) (v3 : Int32) (s0 : Int32) : PM := bv12_finds_64 v12_abs v12_least v12_wants kv15 (v12_finds_221 kv15) (v12_finds_225 kv15) p v1 v2 v3 s0
noncomputable def bg12_finds_64 (F216 : PM → Int32 → Int32) (G216 : PM → Int32 → Prop) (F244 : PM → Int32 → Int32 → Int32) (G244 : PM → Int32 → Int32 → Prop) (F268 : PM → Int32 → Int32 → Int32 → Int32) (G268 : PM → Int32 → Int32 → Int32 → Prop) (kg15 : PM → Int32 → Int32 → Int32 → Prop) (kg221 : PM → Int32 → Int32 → Int32 → Int32 → Int32 → Int32 → Prop) (kg225 : PM → Int32 → Int32 → Int32 → Int32 → Int32 → Int32 → Prop) (p : PM) (v1 : Int32) (v2 : Int32) (v3 : Int32) (s0 : Int32) : Prop :=
  if s0 = 0 then (
    kg15 p v1 v2 (v3 + (cn 1)))
  else (
    (inb v3 44) ∧ (
    (G268 p v1 (cn 1) (p.1 13 25 (v3).toNatClampNeg)) ∧ (
    let x1 : Int32 := (F268 p v1 (cn 1) (p.1 13 25 (v3).toNatClampNeg))
    (inb v3 44) ∧ (
    (G268 p v1 (cn 0) (p.1 13 25 (v3).toNatClampNeg)) ∧ (
    let x2 : Int32 := (F268 p v1 (cn 0) (p.1 13 25 (v3).toNatClampNeg))
    (G244 p x1 x2) ∧ (
    (inb v3 44) ∧ (
    (inb v1 6) ∧ (
    (G216 p ((p.1 13 25 (v3).toNatClampNeg) - (p.1 13 11 (v1).toNatClampNeg))) ∧ (
    let x3 : Int32 := (F216 p ((p.1 13 25 (v3).toNatClampNeg) - (p.1 13 11 (v1).toNatClampNeg)))
    (inb v1 6) ∧ (
    (G216 p ((p.1 12 1 65) - (p.1 13 11 (v1).toNatClampNeg))) ∧ (
    let x4 : Int32 := (F216 p ((p.1 12 1 65) - (p.1 13 11 (v1).toNatClampNeg)))
    if (p.1 12 1 65) = (cn (-100000)) then (
      kg221 p v1 v2 v3 x1 x2 (F244 p x1 x2))
    else (
      if (p.1 12 1 64) < (F244 p x1 x2) then (
        kg221 p v1 v2 v3 x1 x2 (F244 p x1 x2))
      else (
        if (F244 p x1 x2) = (p.1 12 1 64) then (
          (G216 p (x1 - x2)) ∧ (
          if (F216 p (x1 - x2)) < v2 then (
            kg221 p v1 v2 v3 x1 x2 (F244 p x1 x2))
          else (
            (G216 p (x1 - x2)) ∧ (
            if (F216 p (x1 - x2)) = v2 then (
              if x3 < x4 then (
                kg221 p v1 v2 v3 x1 x2 (F244 p x1 x2))
              else (
                if x3 = x4 then (
                  (inb v3 44) ∧ (
                  if (p.1 13 25 (v3).toNatClampNeg) < (p.1 12 1 65) then (
                    kg221 p v1 v2 v3 x1 x2 (F244 p x1 x2))
                  else (
                    kg225 p v1 v2 v3 x1 x2 (F244 p x1 x2))))
                else (
                  kg225 p v1 v2 v3 x1 x2 (F244 p x1 x2))))
            else (
              kg225 p v1 v2 v3 x1 x2 (F244 p x1 x2))))))
        else (
          kg225 p v1 v2 v3 x1 x2 (F244 p x1 x2)))))))))))))))
noncomputable def g12_finds_64 (kg15 : PM → Int32 → Int32 → Int32 → Prop) (p : PM) (v1 : Int32) (v2 : Int32) (v3 : Int32) (s0 : Int32) : Prop := bg12_finds_64 v12_abs g12_abs v12_least g12_least v12_wants g12_wants kg15 (g12_finds_221 kg15) (g12_finds_225 kg15) p v1 v2 v3 s0
noncomputable def bv12_finds_63 (kv64 : PM → Int32 → Int32 → Int32 → Int32 → PM) (p : PM) (v1 : Int32) (v2 : Int32) (v3 : Int32) : PM :=
  kv64 p v1 v2 v3 (cn 0)
noncomputable def v12_finds_63 (kv15 : PM → Int32 → Int32 → Int32 → PM) (p : PM) (v1 : Int32) (v2 : Int32) (v3 : Int32) : PM := bv12_finds_63 (v12_finds_64 kv15) p v1 v2 v3
noncomputable def bg12_finds_63 (kg64 : PM → Int32 → Int32 → Int32 → Int32 → Prop) (p : PM) (v1 : Int32) (v2 : Int32) (v3 : Int32) : Prop :=
  kg64 p v1 v2 v3 (cn 0)
noncomputable def g12_finds_63 (kg15 : PM → Int32 → Int32 → Int32 → Prop) (p : PM) (v1 : Int32) (v2 : Int32) (v3 : Int32) : Prop := bg12_finds_63 (g12_finds_64 kg15) p v1 v2 v3
noncomputable def bv12_finds_339 (p : PM) : PM :=
  if (p.1 12 1 64) = 0 then (
    let p2 : PM := pI p 12 1 65 (cn (-100000))
    p2)
  else (
    let p1 : PM := pI p 12 1 65 (p.1 12 1 65)
    p1)
noncomputable def v12_finds_339 (p : PM) : PM := bv12_finds_339 p
noncomputable def bg12_finds_339 (p : PM) : Prop :=
  if (p.1 12 1 64) = 0 then (
    let p2 : PM := pI p 12 1 65 (cn (-100000))
    True)
  else (
    let p1 : PM := pI p 12 1 65 (p.1 12 1 65)
    True)
noncomputable def g12_finds_339 (p : PM) : Prop := bg12_finds_339 p
noncomputable def bv12_finds_15 (F244 : PM → Int32 → Int32 → Int32) (F268 : PM → Int32 → Int32 → Int32 → Int32) (kv63 : PM → Int32 → Int32 → Int32 → PM) (kv64 : PM → Int32 → Int32 → Int32 → Int32 → PM) (kv339 : PM → PM) (p : PM) (v1 : Int32) (v2 : Int32) (v3 : Int32) : PM :=
  if v3 < (cn 44) then (
    if (p.1 15 3 (v3).toNatClampNeg) = 0 then (
      kv63 p v1 v2 v3)
    else (
      if (p.1 13 24 (v3).toNatClampNeg) = (cn 1) then (
        if (p.1 13 16 (v3).toNatClampNeg) = v1 then (
          if (p.1 15 5 (v3).toNatClampNeg) = 0 then (
            kv64 p v1 v2 v3 (cn 1))
          else (
            kv63 p v1 v2 v3))
        else (
          kv63 p v1 v2 v3))
      else (
        kv63 p v1 v2 v3)))
  else (
    if (p.1 12 1 65) = (cn (-100000)) then (
      let p1 : PM := pI p 12 1 65 (p.1 13 11 (v1).toNatClampNeg)
      let p2 : PM := pI p1 12 1 64 (F244 p1 (F268 p1 v1 (cn 1) (p1.1 12 1 65)) (F268 p1 v1 (cn 0) (p1.1 12 1 65)))
      kv339 p2)
    else (
      kv339 p))
noncomputable def v12_finds_15 (n : Nat) : PM → Int32 → Int32 → Int32 → PM := Nat.rec (motive := fun _ => PM → Int32 → Int32 → Int32 → PM) (fun p _ _ _ => p) (fun _ ih => bv12_finds_15 v12_least v12_wants (v12_finds_63 ih) (v12_finds_64 ih) v12_finds_339) n
theorem ev12_finds_15 (n : Nat) (p : PM) (v1 : Int32) (v2 : Int32) (v3 : Int32) : v12_finds_15 (n + 1) p v1 v2 v3 = bv12_finds_15 v12_least v12_wants (v12_finds_63 (v12_finds_15 n)) (v12_finds_64 (v12_finds_15 n)) v12_finds_339 p v1 v2 v3 := rfl
noncomputable def bg12_finds_15 (F244 : PM → Int32 → Int32 → Int32) (G244 : PM → Int32 → Int32 → Prop) (F268 : PM → Int32 → Int32 → Int32 → Int32) (G268 : PM → Int32 → Int32 → Int32 → Prop) (kg63 : PM → Int32 → Int32 → Int32 → Prop) (kg64 : PM → Int32 → Int32 → Int32 → Int32 → Prop) (kg339 : PM → Prop) (p : PM) (v1 : Int32) (v2 : Int32) (v3 : Int32) : Prop :=
  if v3 < (cn 44) then (
    (inb v3 44) ∧ (
    if (p.1 15 3 (v3).toNatClampNeg) = 0 then (
      kg63 p v1 v2 v3)
    else (
      (inb v3 44) ∧ (
      if (p.1 13 24 (v3).toNatClampNeg) = (cn 1) then (
        (inb v3 44) ∧ (
        if (p.1 13 16 (v3).toNatClampNeg) = v1 then (
          (inb v3 44) ∧ (
          if (p.1 15 5 (v3).toNatClampNeg) = 0 then (
            kg64 p v1 v2 v3 (cn 1))
          else (
            kg63 p v1 v2 v3)))
        else (
          kg63 p v1 v2 v3)))
      else (
        kg63 p v1 v2 v3)))))
  else (
    if (p.1 12 1 65) = (cn (-100000)) then (
      (inb v1 6) ∧ (
      let p1 : PM := pI p 12 1 65 (p.1 13 11 (v1).toNatClampNeg)
      (G268 p1 v1 (cn 1) (p1.1 12 1 65)) ∧ (
      (G268 p1 v1 (cn 0) (p1.1 12 1 65)) ∧ (
      (G244 p1 (F268 p1 v1 (cn 1) (p1.1 12 1 65)) (F268 p1 v1 (cn 0) (p1.1 12 1 65))) ∧ (
      let p2 : PM := pI p1 12 1 64 (F244 p1 (F268 p1 v1 (cn 1) (p1.1 12 1 65)) (F268 p1 v1 (cn 0) (p1.1 12 1 65)))
      kg339 p2)))))
    else (
      kg339 p))
noncomputable def g12_finds_15 (n : Nat) : PM → Int32 → Int32 → Int32 → Prop := Nat.rec (motive := fun _ => PM → Int32 → Int32 → Int32 → Prop) (fun _ _ _ _ => False) (fun _ ih => bg12_finds_15 v12_least g12_least v12_wants g12_wants (g12_finds_63 ih) (g12_finds_64 ih) g12_finds_339) n
theorem eg12_finds_15 (n : Nat) (p : PM) (v1 : Int32) (v2 : Int32) (v3 : Int32) : g12_finds_15 (n + 1) p v1 v2 v3 = bg12_finds_15 v12_least g12_least v12_wants g12_wants (g12_finds_63 (g12_finds_15 n)) (g12_finds_64 (g12_finds_15 n)) g12_finds_339 p v1 v2 v3 := rfl
noncomputable def bv12_finds (kv15 : PM → Int32 → Int32 → Int32 → PM) (p : PM) (v1 : Int32) : PM :=
  let p1 : PM := pI p 12 1 65 (cn (-100000))
  let p2 : PM := pI p1 12 1 64 (cn 0)
  kv15 p2 v1 (cn 0) (cn 0)
noncomputable def v12_finds (p : PM) (v1 : Int32) : PM := bv12_finds (v12_finds_15 FU) p v1
noncomputable def bg12_finds (kg15 : PM → Int32 → Int32 → Int32 → Prop) (p : PM) (v1 : Int32) : Prop :=
  let p1 : PM := pI p 12 1 65 (cn (-100000))
  let p2 : PM := pI p1 12 1 64 (cn 0)
  kg15 p2 v1 (cn 0) (cn 0)
noncomputable def g12_finds (p : PM) (v1 : Int32) : Prop := bg12_finds (g12_finds_15 FU) p v1
def R269 : List Row := [(0, .aload_n 0, 1, 0, (0, 0, 0, 0, 0, 0)), (1, .ldc 184, 2, 0, (0, 0, 0, 0, 0, -100000)), (3, .putfield 372, 3, 0, (12, 65, 0, 1, 0, 0)), (6, .aload_n 0, 1, 0, (0, 0, 0, 0, 0, 0)), (7, .iconst 0, 1, 0, (0, 0, 0, 0, 0, 0)), (8, .putfield 375, 3, 0, (12, 64, 0, 1, 0, 0)), (11, .iconst 0, 1, 0, (0, 0, 0, 0, 0, 0)), (12, .istore_n 2, 1, 0, (0, 0, 0, 0, 0, 0)), (13, .iconst 0, 1, 0, (0, 0, 0, 0, 0, 0)), (14, .istore_n 3, 1, 0, (0, 0, 0, 0, 0, 0)), (15, .iload_n 3, 1, 1, (0, 0, 0, 0, 0, 0)), (16, .bipush 44, 2, 0, (0, 0, 0, 0, 0, 44)), (18, .if_icmp .ge 274, 3, 0, (0, 0, 0, 0, 0, 0)), (21, .aload_n 0, 1, 0, (0, 0, 0, 0, 0, 0)), (22, .getfield 60, 3, 0, (12, 19, 18, 2, 3, 0)), (25, .iload_n 3, 1, 0, (0, 0, 0, 0, 0, 0)), (26, .baload, 1, 0, (15, 44, 0, 0, 0, 0)), (27, .ifCond .eq 36, 3, 0, (0, 0, 0, 0, 0, 0)), (30, .aload_n 0, 1, 0, (0, 0, 0, 0, 0, 0)), (31, .getfield 99, 3, 0, (12, 32, 16, 2, 24, 0)), (34, .iload_n 3, 1, 0, (0, 0, 0, 0, 0, 0)), (35, .iaload, 1, 0, (13, 44, 0, 0, 0, 0)), (36, .iconst 1, 1, 0, (0, 0, 0, 0, 0, 1)), (37, .if_icmp .ne 26, 3, 0, (0, 0, 0, 0, 0, 0)), (40, .aload_n 0, 1, 0, (0, 0, 0, 0, 0, 0)), (41, .getfield 69, 3, 0, (12, 22, 16, 2, 16, 0)), (44, .iload_n 3, 1, 0, (0, 0, 0, 0, 0, 0)), (45, .iaload, 1, 0, (13, 44, 0, 0, 0, 0)), (46, .iload_n 1, 1, 0, (0, 0, 0, 0, 0, 0)), (47, .if_icmp .ne 16, 3, 0, (0, 0, 0, 0, 0, 0)), (50, .aload_n 0, 1, 0, (0, 0, 0, 0, 0, 0)), (51, .getfield 78, 3, 0, (12, 25, 18, 2, 5, 0)), (54, .iload_n 3, 1, 0, (0, 0, 0, 0, 0, 0)), (55, .baload, 1, 0, (15, 44, 0, 0, 0, 0)), (56, .ifCond .ne 7, 3, 0, (0, 0, 0, 0, 0, 0)), (59, .iconst 1, 1, 0, (0, 0, 0, 0, 0, 1)), (60, .goto 4, 3, 0, (0, 0, 0, 0, 0, 0)), (63, .iconst 0, 1, 2, (0, 0, 0, 0, 0, 0)), (64, .istore 4, 2, 3, (0, 0, 0, 0, 0, 0)), (66, .iload 4, 2, 0, (0, 0, 0, 0, 0, 0)), (68, .ifCond .eq 218, 3, 0, (0, 0, 0, 0, 0, 0)), (71, .aload_n 0, 1, 0, (0, 0, 0, 0, 0, 0)), (72, .iload_n 1, 1, 0, (0, 0, 0, 0, 0, 0)), (73, .iconst 1, 1, 0, (0, 0, 0, 0, 0, 1)), (74, .aload_n 0, 1, 0, (0, 0, 0, 0, 0, 0)), (75, .getfield 102, 3, 0, (12, 33, 16, 2, 25, 0)), (78, .iload_n 3, 1, 0, (0, 0, 0, 0, 0, 0)), (79, .iaload, 1, 0, (13, 44, 0, 0, 0, 0)), (80, .invokevirtual 378, 3, 0, (0, 4, 0, 0, 1, 0)), (83, .istore 5, 2, 0, (0, 0, 0, 0, 0, 0)), (85, .aload_n 0, 1, 0, (0, 0, 0, 0, 0, 0)), (86, .iload_n 1, 1, 0, (0, 0, 0, 0, 0, 0)), (87, .iconst 0, 1, 0, (0, 0, 0, 0, 0, 0)), (88, .aload_n 0, 1, 0, (0, 0, 0, 0, 0, 0)), (89, .getfield 102, 3, 0, (12, 33, 16, 2, 25, 0)), (92, .iload_n 3, 1, 0, (0, 0, 0, 0, 0, 0)), (93, .iaload, 1, 0, (13, 44, 0, 0, 0, 0)), (94, .invokevirtual 378, 3, 0, (0, 4, 0, 0, 1, 0)), (97, .istore 6, 2, 0, (0, 0, 0, 0, 0, 0)), (99, .aload_n 0, 1, 0, (0, 0, 0, 0, 0, 0)), (100, .iload 5, 2, 0, (0, 0, 0, 0, 0, 0)), (102, .iload 6, 2, 0, (0, 0, 0, 0, 0, 0)), (104, .invokevirtual 261, 3, 0, (1, 3, 0, 0, 1, 0)), (107, .istore 7, 2, 0, (0, 0, 0, 0, 0, 0)), (109, .aload_n 0, 1, 0, (0, 0, 0, 0, 0, 0)), (110, .getfield 102, 3, 0, (12, 33, 16, 2, 25, 0)), (113, .iload_n 3, 1, 0, (0, 0, 0, 0, 0, 0)), (114, .iaload, 1, 0, (13, 44, 0, 0, 0, 0)), (115, .aload_n 0, 1, 0, (0, 0, 0, 0, 0, 0)), (116, .getfield 48, 3, 0, (12, 13, 16, 2, 11, 0)), (119, .iload_n 1, 1, 0, (0, 0, 0, 0, 0, 0)), (120, .iaload, 1, 0, (13, 6, 0, 0, 0, 0)), (121, .isub, 1, 0, (0, 0, 0, 0, 0, 0)), (122, .invokestatic 213, 3, 0, (2, 1, 0, 0, 0, 0)), (125, .istore 8, 2, 0, (0, 0, 0, 0, 0, 0)), (127, .aload_n 0, 1, 0, (0, 0, 0, 0, 0, 0)), (128, .getfield 372, 3, 0, (12, 65, 0, 1, 0, 0)), (131, .aload_n 0, 1, 0, (0, 0, 0, 0, 0, 0)), (132, .getfield 48, 3, 0, (12, 13, 16, 2, 11, 0)), (135, .iload_n 1, 1, 0, (0, 0, 0, 0, 0, 0)), (136, .iaload, 1, 0, (13, 6, 0, 0, 0, 0)), (137, .isub, 1, 0, (0, 0, 0, 0, 0, 0)), (138, .invokestatic 213, 3, 0, (2, 1, 0, 0, 0, 0)), (141, .istore 9, 2, 0, (0, 0, 0, 0, 0, 0)), (143, .aload_n 0, 1, 0, (0, 0, 0, 0, 0, 0)), (144, .getfield 372, 3, 0, (12, 65, 0, 1, 0, 0)), (147, .ldc 184, 2, 0, (0, 0, 0, 0, 0, -100000)), (149, .if_icmp .eq 72, 3, 0, (0, 0, 0, 0, 0, 0)), (152, .iload 7, 2, 0, (0, 0, 0, 0, 0, 0)), (154, .aload_n 0, 1, 0, (0, 0, 0, 0, 0, 0)), (155, .getfield 375, 3, 0, (12, 64, 0, 1, 0, 0)), (158, .if_icmp .gt 63, 3, 0, (0, 0, 0, 0, 0, 0)), (161, .iload 7, 2, 0, (0, 0, 0, 0, 0, 0)), (163, .aload_n 0, 1, 0, (0, 0, 0, 0, 0, 0)), (164, .getfield 375, 3, 0, (12, 64, 0, 1, 0, 0)), (167, .if_icmp .ne 58, 3, 0, (0, 0, 0, 0, 0, 0)), (170, .iload 5, 2, 0, (0, 0, 0, 0, 0, 0)), (172, .iload 6, 2, 0, (0, 0, 0, 0, 0, 0)), (174, .isub, 1, 0, (0, 0, 0, 0, 0, 0)), (175, .invokestatic 213, 3, 0, (2, 1, 0, 0, 0, 0)), (178, .iload_n 2, 1, 0, (0, 0, 0, 0, 0, 0)), (179, .if_icmp .lt 42, 3, 0, (0, 0, 0, 0, 0, 0)), (182, .iload 5, 2, 0, (0, 0, 0, 0, 0, 0)), (184, .iload 6, 2, 0, (0, 0, 0, 0, 0, 0)), (186, .isub, 1, 0, (0, 0, 0, 0, 0, 0)), (187, .invokestatic 213, 3, 0, (2, 1, 0, 0, 0, 0)), (190, .iload_n 2, 1, 0, (0, 0, 0, 0, 0, 0)), (191, .if_icmp .ne 34, 3, 0, (0, 0, 0, 0, 0, 0)), (194, .iload 8, 2, 0, (0, 0, 0, 0, 0, 0)), (196, .iload 9, 2, 0, (0, 0, 0, 0, 0, 0)), (198, .if_icmp .lt 23, 3, 0, (0, 0, 0, 0, 0, 0)), (201, .iload 8, 2, 0, (0, 0, 0, 0, 0, 0)), (203, .iload 9, 2, 0, (0, 0, 0, 0, 0, 0)), (205, .if_icmp .ne 20, 3, 0, (0, 0, 0, 0, 0, 0)), (208, .aload_n 0, 1, 0, (0, 0, 0, 0, 0, 0)), (209, .getfield 102, 3, 0, (12, 33, 16, 2, 25, 0)), (212, .iload_n 3, 1, 0, (0, 0, 0, 0, 0, 0)), (213, .iaload, 1, 0, (13, 44, 0, 0, 0, 0)), (214, .aload_n 0, 1, 0, (0, 0, 0, 0, 0, 0)), (215, .getfield 372, 3, 0, (12, 65, 0, 1, 0, 0)), (218, .if_icmp .ge 7, 3, 0, (0, 0, 0, 0, 0, 0)), (221, .iconst 1, 1, 4, (0, 0, 0, 0, 0, 1)), (222, .goto 4, 3, 0, (0, 0, 0, 0, 0, 0)), (225, .iconst 0, 1, 5, (0, 0, 0, 0, 0, 0)), (226, .istore 10, 2, 0, (0, 0, 0, 0, 0, 0)), (228, .aload_n 0, 1, 0, (0, 0, 0, 0, 0, 0)), (229, .iload 10, 2, 0, (0, 0, 0, 0, 0, 0)), (231, .ifCond .eq 12, 3, 0, (0, 0, 0, 0, 0, 0)), (234, .aload_n 0, 1, 0, (0, 0, 0, 0, 0, 0)), (235, .getfield 102, 3, 0, (12, 33, 16, 2, 25, 0)), (238, .iload_n 3, 1, 0, (0, 0, 0, 0, 0, 0)), (239, .iaload, 1, 0, (13, 44, 0, 0, 0, 0)), (240, .goto 7, 3, 0, (0, 0, 0, 0, 0, 0)), (243, .aload_n 0, 1, 0, (0, 0, 0, 0, 0, 0)), (244, .getfield 372, 3, 0, (12, 65, 0, 1, 0, 0)), (247, .putfield 372, 3, 0, (12, 65, 0, 1, 0, 0)), (250, .aload_n 0, 1, 0, (0, 0, 0, 0, 0, 0)), (251, .iload 10, 2, 0, (0, 0, 0, 0, 0, 0)), (253, .ifCond .eq 8, 3, 0, (0, 0, 0, 0, 0, 0)), (256, .iload 7, 2, 0, (0, 0, 0, 0, 0, 0)), (258, .goto 7, 3, 0, (0, 0, 0, 0, 0, 0)), (261, .aload_n 0, 1, 0, (0, 0, 0, 0, 0, 0)), (262, .getfield 375, 3, 0, (12, 64, 0, 1, 0, 0)), (265, .putfield 375, 3, 0, (12, 64, 0, 1, 0, 0)), (268, .iload 10, 2, 0, (0, 0, 0, 0, 0, 0)), (270, .ifCond .eq 14, 3, 0, (0, 0, 0, 0, 0, 0)), (273, .iload 5, 2, 0, (0, 0, 0, 0, 0, 0)), (275, .iload 6, 2, 0, (0, 0, 0, 0, 0, 0)), (277, .isub, 1, 0, (0, 0, 0, 0, 0, 0)), (278, .invokestatic 213, 3, 0, (2, 1, 0, 0, 0, 0)), (281, .goto 4, 3, 0, (0, 0, 0, 0, 0, 0)), (284, .iload_n 2, 1, 0, (0, 0, 0, 0, 0, 0)), (285, .istore_n 2, 1, 0, (0, 0, 0, 0, 0, 0)), (286, .iinc 3 1, 3, 0, (0, 0, 0, 0, 0, 1)), (289, .goto (-274), 3, 0, (0, 0, 0, 0, 0, 0)), (292, .aload_n 0, 1, 0, (0, 0, 0, 0, 0, 0)), (293, .getfield 372, 3, 0, (12, 65, 0, 1, 0, 0)), (296, .ldc 184, 2, 0, (0, 0, 0, 0, 0, -100000)), (298, .if_icmp .ne 41, 3, 0, (0, 0, 0, 0, 0, 0)), (301, .aload_n 0, 1, 0, (0, 0, 0, 0, 0, 0)), (302, .aload_n 0, 1, 0, (0, 0, 0, 0, 0, 0)), (303, .getfield 48, 3, 0, (12, 13, 16, 2, 11, 0)), (306, .iload_n 1, 1, 0, (0, 0, 0, 0, 0, 0)), (307, .iaload, 1, 0, (13, 6, 0, 0, 0, 0)), (308, .putfield 372, 3, 0, (12, 65, 0, 1, 0, 0)), (311, .aload_n 0, 1, 0, (0, 0, 0, 0, 0, 0)), (312, .aload_n 0, 1, 0, (0, 0, 0, 0, 0, 0)), (313, .aload_n 0, 1, 0, (0, 0, 0, 0, 0, 0)), (314, .iload_n 1, 1, 0, (0, 0, 0, 0, 0, 0)), (315, .iconst 1, 1, 0, (0, 0, 0, 0, 0, 1)), (316, .aload_n 0, 1, 0, (0, 0, 0, 0, 0, 0)), (317, .getfield 372, 3, 0, (12, 65, 0, 1, 0, 0)), (320, .invokevirtual 378, 3, 0, (0, 4, 0, 0, 1, 0)), (323, .aload_n 0, 1, 0, (0, 0, 0, 0, 0, 0)), (324, .iload_n 1, 1, 0, (0, 0, 0, 0, 0, 0)), (325, .iconst 0, 1, 0, (0, 0, 0, 0, 0, 0)), (326, .aload_n 0, 1, 0, (0, 0, 0, 0, 0, 0)), (327, .getfield 372, 3, 0, (12, 65, 0, 1, 0, 0)), (330, .invokevirtual 378, 3, 0, (0, 4, 0, 0, 1, 0)), (333, .invokevirtual 261, 3, 0, (1, 3, 0, 0, 1, 0)), (336, .putfield 375, 3, 0, (12, 64, 0, 1, 0, 0)), (339, .aload_n 0, 1, 6, (0, 0, 0, 0, 0, 0)), (340, .aload_n 0, 1, 0, (0, 0, 0, 0, 0, 0)), (341, .getfield 375, 3, 0, (12, 64, 0, 1, 0, 0)), (344, .ifCond .ne 8, 3, 0, (0, 0, 0, 0, 0, 0)), (347, .ldc 184, 2, 0, (0, 0, 0, 0, 0, -100000)), (349, .goto 7, 3, 0, (0, 0, 0, 0, 0, 0)), (352, .aload_n 0, 1, 0, (0, 0, 0, 0, 0, 0)), (353, .getfield 372, 3, 0, (12, 65, 0, 1, 0, 0)), (356, .putfield 372, 3, 0, (12, 65, 0, 1, 0, 0)), (359, .return_, 1, 0, (0, 0, 0, 0, 0, 0))]
set_option maxRecDepth 100000 in
theorem rk269 : R269.all (rok 2 269 0 [(268, [15, 0, 0, 0]), (244, [15, 0, 0]), (216, [0])]) = true := by decide +kernel
set_option maxRecDepth 100000 in
theorem tab269 {F268 : PM → Int32 → Int32 → Int32 → Int32} {G268 : PM → Int32 → Int32 → Int32 → Prop} {F244 : PM → Int32 → Int32 → Int32} {G244 : PM → Int32 → Int32 → Prop} {F216 : PM → Int32 → Int32} {G216 : PM → Int32 → Prop} : TabOK 2 269 0 [CC268 F268 G268, CC244 F244 G244, CC216 F216 G216] R269 := tab_ok (K := K269) rfl rfl (fun h => d269 h) rk269 (by decide +kernel)
set_option maxRecDepth 100000 in
theorem pc269 : cutpc [15, 63, 64, 221, 225, 339] R269 = true := by decide +kernel
set_option maxRecDepth 100000 in
theorem r12_finds_221 (F268 : PM → Int32 → Int32 → Int32 → Int32) (G268 : PM → Int32 → Int32 → Int32 → Prop) (o268 : CalOK 2 (CC268 F268 G268)) (F244 : PM → Int32 → Int32 → Int32) (G244 : PM → Int32 → Int32 → Prop) (o244 : CalOK 2 (CC244 F244 G244)) (F216 : PM → Int32 → Int32) (G216 : PM → Int32 → Prop) (o216 : CalOK 2 (CC216 F216 G216)) (kv15 : PM → Int32 → Int32 → Int32 → PM) (kg15 : PM → Int32 → Int32 → Int32 → Prop) (hk15 : ∀ (p : PM) (v1 : Int32) (v2 : Int32) (v3 : Int32) (d4 d5 d6 d7 d8 d9 d10 : ZV), Gr 2 p → kg15 p v1 v2 v3 → ZJ 2 269 15 [zR 12 1, zI v1, zI v2, zI v3, d4, d5, d6, d7, d8, d9, d10] [] p (hwV (kv15 p v1 v2 v3))) : ∀ (p : PM) (v1 : Int32) (v2 : Int32) (v3 : Int32) (v5 : Int32) (v6 : Int32) (v7 : Int32) (d4 d8 d9 d10 : ZV), Gr 2 p → bg12_finds_221 F216 G216 kg15 p v1 v2 v3 v5 v6 v7 → ZJ 2 269 221 [zR 12 1, zI v1, zI v2, zI v3, d4, zI v5, zI v6, zI v7, d8, d9, d10] [] p (hwV (bv12_finds_221 F216 kv15 p v1 v2 v3 v5 v6 v7)) := by
  intro p v1 v2 v3 v5 v6 v7 d4 d8 d9 d10 hg H
  exact rwV (n := 3000) (q := 221) (la := [zR 12 1, zI v1, zI v2, zI v3, d4, zI v5, zI v6, zI v7, d8, d9, d10]) (sa := []) (ks := [fun la sa s => kv15 s (ai la 1) (ai la 2) (ai la 3), fun _ _ s => s, fun _ _ s => s, fun _ _ s => s, fun _ _ s => s, fun _ _ s => s]) (gs := [fun la sa s => zsw (tc2 la [(112, 1), (0, 0), (0, 0), (0, 0), (2, 0), (2, 0), (2, 0), (2, 0), (2, 0), (2, 0), (2, 0)] && tc2 sa []) False (kg15 s (ai la 1) (ai la 2) (ai la 3)), fun _ _ _ => False, fun _ _ _ => False, fun _ _ _ => False, fun _ _ _ => False, fun _ _ _ => False]) (fcons o268 (fcons o244 (fcons o216 (fnil)))) tab269 pc269 ⟨fun la sa s hg H => zcut H fun H => hk15 s (ai la 1) (ai la 2) (ai la 3) (zld la 4) (zld la 5) (zld la 6) (zld la 7) (zld la 8) (zld la 9) (zld la 10) hg H, fun _ _ _ _ H => H.elim, fun _ _ _ _ H => H.elim, fun _ _ _ _ H => H.elim, fun _ _ _ _ H => H.elim, fun _ _ _ _ H => H.elim, trivial⟩ hg H
theorem t12_finds_221 (kv15 : PM → Int32 → Int32 → Int32 → PM) (kg15 : PM → Int32 → Int32 → Int32 → Prop) (hk15 : ∀ (p : PM) (v1 : Int32) (v2 : Int32) (v3 : Int32) (d4 d5 d6 d7 d8 d9 d10 : ZV), Gr 2 p → kg15 p v1 v2 v3 → ZJ 2 269 15 [zR 12 1, zI v1, zI v2, zI v3, d4, d5, d6, d7, d8, d9, d10] [] p (hwV (kv15 p v1 v2 v3))) : ∀ (p : PM) (v1 : Int32) (v2 : Int32) (v3 : Int32) (v5 : Int32) (v6 : Int32) (v7 : Int32) (d4 d8 d9 d10 : ZV), Gr 2 p → g12_finds_221 kg15 p v1 v2 v3 v5 v6 v7 → ZJ 2 269 221 [zR 12 1, zI v1, zI v2, zI v3, d4, zI v5, zI v6, zI v7, d8, d9, d10] [] p (hwV (v12_finds_221 kv15 p v1 v2 v3 v5 v6 v7)) := r12_finds_221 v12_wants g12_wants ok268 v12_least g12_least ok244 v12_abs g12_abs ok216 kv15 kg15 hk15
set_option maxRecDepth 100000 in
theorem r12_finds_225 (F268 : PM → Int32 → Int32 → Int32 → Int32) (G268 : PM → Int32 → Int32 → Int32 → Prop) (o268 : CalOK 2 (CC268 F268 G268)) (F244 : PM → Int32 → Int32 → Int32) (G244 : PM → Int32 → Int32 → Prop) (o244 : CalOK 2 (CC244 F244 G244)) (F216 : PM → Int32 → Int32) (G216 : PM → Int32 → Prop) (o216 : CalOK 2 (CC216 F216 G216)) (kv15 : PM → Int32 → Int32 → Int32 → PM) (kg15 : PM → Int32 → Int32 → Int32 → Prop) (hk15 : ∀ (p : PM) (v1 : Int32) (v2 : Int32) (v3 : Int32) (d4 d5 d6 d7 d8 d9 d10 : ZV), Gr 2 p → kg15 p v1 v2 v3 → ZJ 2 269 15 [zR 12 1, zI v1, zI v2, zI v3, d4, d5, d6, d7, d8, d9, d10] [] p (hwV (kv15 p v1 v2 v3))) : ∀ (p : PM) (v1 : Int32) (v2 : Int32) (v3 : Int32) (v5 : Int32) (v6 : Int32) (v7 : Int32) (d4 d8 d9 d10 : ZV), Gr 2 p → bg12_finds_225 kg15 p v1 v2 v3 v5 v6 v7 → ZJ 2 269 225 [zR 12 1, zI v1, zI v2, zI v3, d4, zI v5, zI v6, zI v7, d8, d9, d10] [] p (hwV (bv12_finds_225 kv15 p v1 v2 v3 v5 v6 v7)) := by
  intro p v1 v2 v3 v5 v6 v7 d4 d8 d9 d10 hg H
  exact rwV (n := 3000) (q := 225) (la := [zR 12 1, zI v1, zI v2, zI v3, d4, zI v5, zI v6, zI v7, d8, d9, d10]) (sa := []) (ks := [fun la sa s => kv15 s (ai la 1) (ai la 2) (ai la 3), fun _ _ s => s, fun _ _ s => s, fun _ _ s => s, fun _ _ s => s, fun _ _ s => s]) (gs := [fun la sa s => zsw (tc2 la [(112, 1), (0, 0), (0, 0), (0, 0), (2, 0), (2, 0), (2, 0), (2, 0), (2, 0), (2, 0), (2, 0)] && tc2 sa []) False (kg15 s (ai la 1) (ai la 2) (ai la 3)), fun _ _ _ => False, fun _ _ _ => False, fun _ _ _ => False, fun _ _ _ => False, fun _ _ _ => False]) (fcons o268 (fcons o244 (fcons o216 (fnil)))) tab269 pc269 ⟨fun la sa s hg H => zcut H fun H => hk15 s (ai la 1) (ai la 2) (ai la 3) (zld la 4) (zld la 5) (zld la 6) (zld la 7) (zld la 8) (zld la 9) (zld la 10) hg H, fun _ _ _ _ H => H.elim, fun _ _ _ _ H => H.elim, fun _ _ _ _ H => H.elim, fun _ _ _ _ H => H.elim, fun _ _ _ _ H => H.elim, trivial⟩ hg H
theorem t12_finds_225 (kv15 : PM → Int32 → Int32 → Int32 → PM) (kg15 : PM → Int32 → Int32 → Int32 → Prop) (hk15 : ∀ (p : PM) (v1 : Int32) (v2 : Int32) (v3 : Int32) (d4 d5 d6 d7 d8 d9 d10 : ZV), Gr 2 p → kg15 p v1 v2 v3 → ZJ 2 269 15 [zR 12 1, zI v1, zI v2, zI v3, d4, d5, d6, d7, d8, d9, d10] [] p (hwV (kv15 p v1 v2 v3))) : ∀ (p : PM) (v1 : Int32) (v2 : Int32) (v3 : Int32) (v5 : Int32) (v6 : Int32) (v7 : Int32) (d4 d8 d9 d10 : ZV), Gr 2 p → g12_finds_225 kg15 p v1 v2 v3 v5 v6 v7 → ZJ 2 269 225 [zR 12 1, zI v1, zI v2, zI v3, d4, zI v5, zI v6, zI v7, d8, d9, d10] [] p (hwV (v12_finds_225 kv15 p v1 v2 v3 v5 v6 v7)) := r12_finds_225 v12_wants g12_wants ok268 v12_least g12_least ok244 v12_abs g12_abs ok216 kv15 kg15 hk15
set_option maxRecDepth 100000 in
theorem r12_finds_64 (F268 : PM → Int32 → Int32 → Int32 → Int32) (G268 : PM → Int32 → Int32 → Int32 → Prop) (o268 : CalOK 2 (CC268 F268 G268)) (F244 : PM → Int32 → Int32 → Int32) (G244 : PM → Int32 → Int32 → Prop) (o244 : CalOK 2 (CC244 F244 G244)) (F216 : PM → Int32 → Int32) (G216 : PM → Int32 → Prop) (o216 : CalOK 2 (CC216 F216 G216)) (kv15 : PM → Int32 → Int32 → Int32 → PM) (kg15 : PM → Int32 → Int32 → Int32 → Prop) (hk15 : ∀ (p : PM) (v1 : Int32) (v2 : Int32) (v3 : Int32) (d4 d5 d6 d7 d8 d9 d10 : ZV), Gr 2 p → kg15 p v1 v2 v3 → ZJ 2 269 15 [zR 12 1, zI v1, zI v2, zI v3, d4, d5, d6, d7, d8, d9, d10] [] p (hwV (kv15 p v1 v2 v3))) (kv221 : PM → Int32 → Int32 → Int32 → Int32 → Int32 → Int32 → PM) (kg221 : PM → Int32 → Int32 → Int32 → Int32 → Int32 → Int32 → Prop) (hk221 : ∀ (p : PM) (v1 : Int32) (v2 : Int32) (v3 : Int32) (v5 : Int32) (v6 : Int32) (v7 : Int32) (d4 d8 d9 d10 : ZV), Gr 2 p → kg221 p v1 v2 v3 v5 v6 v7 → ZJ 2 269 221 [zR 12 1, zI v1, zI v2, zI v3, d4, zI v5, zI v6, zI v7, d8, d9, d10] [] p (hwV (kv221 p v1 v2 v3 v5 v6 v7))) (kv225 : PM → Int32 → Int32 → Int32 → Int32 → Int32 → Int32 → PM) (kg225 : PM → Int32 → Int32 → Int32 → Int32 → Int32 → Int32 → Prop) (hk225 : ∀ (p : PM) (v1 : Int32) (v2 : Int32) (v3 : Int32) (v5 : Int32) (v6 : Int32) (v7 : Int32) (d4 d8 d9 d10 : ZV), Gr 2 p → kg225 p v1 v2 v3 v5 v6 v7 → ZJ 2 269 225 [zR 12 1, zI v1, zI v2, zI v3, d4, zI v5, zI v6, zI v7, d8, d9, d10] [] p (hwV (kv225 p v1 v2 v3 v5 v6 v7))) : ∀ (p : PM) (v1 : Int32) (v2 : Int32) (v3 : Int32) (s0 : Int32) (d4 d5 d6 d7 d8 d9 d10 : ZV), Gr 2 p → bg12_finds_64 F216 G216 F244 G244 F268 G268 kg15 kg221 kg225 p v1 v2 v3 s0 → ZJ 2 269 64 [zR 12 1, zI v1, zI v2, zI v3, d4, d5, d6, d7, d8, d9, d10] [zI s0] p (hwV (bv12_finds_64 F216 F244 F268 kv15 kv221 kv225 p v1 v2 v3 s0)) := by
  intro p v1 v2 v3 s0 d4 d5 d6 d7 d8 d9 d10 hg H
  exact rwV (n := 3000) (q := 64) (la := [zR 12 1, zI v1, zI v2, zI v3, d4, d5, d6, d7, d8, d9, d10]) (sa := [zI s0]) (ks := [fun la sa s => kv15 s (ai la 1) (ai la 2) (ai la 3), fun _ _ s => s, fun _ _ s => s, fun la sa s => kv221 s (ai la 1) (ai la 2) (ai la 3) (ai la 5) (ai la 6) (ai la 7), fun la sa s => kv225 s (ai la 1) (ai la 2) (ai la 3) (ai la 5) (ai la 6) (ai la 7), fun _ _ s => s]) (gs := [fun la sa s => zsw (tc2 la [(112, 1), (0, 0), (0, 0), (0, 0), (2, 0), (2, 0), (2, 0), (2, 0), (2, 0), (2, 0), (2, 0)] && tc2 sa []) False (kg15 s (ai la 1) (ai la 2) (ai la 3)), fun _ _ _ => False, fun _ _ _ => False, fun la sa s => zsw (tc2 la [(112, 1), (0, 0), (0, 0), (0, 0), (2, 0), (0, 0), (0, 0), (0, 0), (2, 0), (2, 0), (2, 0)] && tc2 sa []) False (kg221 s (ai la 1) (ai la 2) (ai la 3) (ai la 5) (ai la 6) (ai la 7)), fun la sa s => zsw (tc2 la [(112, 1), (0, 0), (0, 0), (0, 0), (2, 0), (0, 0), (0, 0), (0, 0), (2, 0), (2, 0), (2, 0)] && tc2 sa []) False (kg225 s (ai la 1) (ai la 2) (ai la 3) (ai la 5) (ai la 6) (ai la 7)), fun _ _ _ => False]) (fcons o268 (fcons o244 (fcons o216 (fnil)))) tab269 pc269 ⟨fun la sa s hg H => zcut H fun H => hk15 s (ai la 1) (ai la 2) (ai la 3) (zld la 4) (zld la 5) (zld la 6) (zld la 7) (zld la 8) (zld la 9) (zld la 10) hg H, fun _ _ _ _ H => H.elim, fun _ _ _ _ H => H.elim, fun la sa s hg H => zcut H fun H => hk221 s (ai la 1) (ai la 2) (ai la 3) (ai la 5) (ai la 6) (ai la 7) (zld la 4) (zld la 8) (zld la 9) (zld la 10) hg H, fun la sa s hg H => zcut H fun H => hk225 s (ai la 1) (ai la 2) (ai la 3) (ai la 5) (ai la 6) (ai la 7) (zld la 4) (zld la 8) (zld la 9) (zld la 10) hg H, fun _ _ _ _ H => H.elim, trivial⟩ hg H
theorem t12_finds_64 (kv15 : PM → Int32 → Int32 → Int32 → PM) (kg15 : PM → Int32 → Int32 → Int32 → Prop) (hk15 : ∀ (p : PM) (v1 : Int32) (v2 : Int32) (v3 : Int32) (d4 d5 d6 d7 d8 d9 d10 : ZV), Gr 2 p → kg15 p v1 v2 v3 → ZJ 2 269 15 [zR 12 1, zI v1, zI v2, zI v3, d4, d5, d6, d7, d8, d9, d10] [] p (hwV (kv15 p v1 v2 v3))) : ∀ (p : PM) (v1 : Int32) (v2 : Int32) (v3 : Int32) (s0 : Int32) (d4 d5 d6 d7 d8 d9 d10 : ZV), Gr 2 p → g12_finds_64 kg15 p v1 v2 v3 s0 → ZJ 2 269 64 [zR 12 1, zI v1, zI v2, zI v3, d4, d5, d6, d7, d8, d9, d10] [zI s0] p (hwV (v12_finds_64 kv15 p v1 v2 v3 s0)) := r12_finds_64 v12_wants g12_wants ok268 v12_least g12_least ok244 v12_abs g12_abs ok216 kv15 kg15 hk15 (v12_finds_221 kv15) (g12_finds_221 kg15) (t12_finds_221 kv15 kg15 hk15) (v12_finds_225 kv15) (g12_finds_225 kg15) (t12_finds_225 kv15 kg15 hk15)
set_option maxRecDepth 100000 in
theorem r12_finds_63 (F268 : PM → Int32 → Int32 → Int32 → Int32) (G268 : PM → Int32 → Int32 → Int32 → Prop) (o268 : CalOK 2 (CC268 F268 G268)) (F244 : PM → Int32 → Int32 → Int32) (G244 : PM → Int32 → Int32 → Prop) (o244 : CalOK 2 (CC244 F244 G244)) (F216 : PM → Int32 → Int32) (G216 : PM → Int32 → Prop) (o216 : CalOK 2 (CC216 F216 G216)) (kv64 : PM → Int32 → Int32 → Int32 → Int32 → PM) (kg64 : PM → Int32 → Int32 → Int32 → Int32 → Prop) (hk64 : ∀ (p : PM) (v1 : Int32) (v2 : Int32) (v3 : Int32) (s0 : Int32) (d4 d5 d6 d7 d8 d9 d10 : ZV), Gr 2 p → kg64 p v1 v2 v3 s0 → ZJ 2 269 64 [zR 12 1, zI v1, zI v2, zI v3, d4, d5, d6, d7, d8, d9, d10] [zI s0] p (hwV (kv64 p v1 v2 v3 s0))) : ∀ (p : PM) (v1 : Int32) (v2 : Int32) (v3 : Int32) (d4 d5 d6 d7 d8 d9 d10 : ZV), Gr 2 p → bg12_finds_63 kg64 p v1 v2 v3 → ZJ 2 269 63 [zR 12 1, zI v1, zI v2, zI v3, d4, d5, d6, d7, d8, d9, d10] [] p (hwV (bv12_finds_63 kv64 p v1 v2 v3)) := by
  intro p v1 v2 v3 d4 d5 d6 d7 d8 d9 d10 hg H
  exact rwV (n := 3000) (q := 63) (la := [zR 12 1, zI v1, zI v2, zI v3, d4, d5, d6, d7, d8, d9, d10]) (sa := []) (ks := [fun _ _ s => s, fun _ _ s => s, fun la sa s => kv64 s (ai la 1) (ai la 2) (ai la 3) (ai sa 0), fun _ _ s => s, fun _ _ s => s, fun _ _ s => s]) (gs := [fun _ _ _ => False, fun _ _ _ => False, fun la sa s => zsw (tc2 la [(112, 1), (0, 0), (0, 0), (0, 0), (2, 0), (2, 0), (2, 0), (2, 0), (2, 0), (2, 0), (2, 0)] && tc2 sa [(0, 0)]) False (kg64 s (ai la 1) (ai la 2) (ai la 3) (ai sa 0)), fun _ _ _ => False, fun _ _ _ => False, fun _ _ _ => False]) (fcons o268 (fcons o244 (fcons o216 (fnil)))) tab269 pc269 ⟨fun _ _ _ _ H => H.elim, fun _ _ _ _ H => H.elim, fun la sa s hg H => zcut H fun H => hk64 s (ai la 1) (ai la 2) (ai la 3) (ai sa 0) (zld la 4) (zld la 5) (zld la 6) (zld la 7) (zld la 8) (zld la 9) (zld la 10) hg H, fun _ _ _ _ H => H.elim, fun _ _ _ _ H => H.elim, fun _ _ _ _ H => H.elim, trivial⟩ hg H
theorem t12_finds_63 (kv15 : PM → Int32 → Int32 → Int32 → PM) (kg15 : PM → Int32 → Int32 → Int32 → Prop) (hk15 : ∀ (p : PM) (v1 : Int32) (v2 : Int32) (v3 : Int32) (d4 d5 d6 d7 d8 d9 d10 : ZV), Gr 2 p → kg15 p v1 v2 v3 → ZJ 2 269 15 [zR 12 1, zI v1, zI v2, zI v3, d4, d5, d6, d7, d8, d9, d10] [] p (hwV (kv15 p v1 v2 v3))) : ∀ (p : PM) (v1 : Int32) (v2 : Int32) (v3 : Int32) (d4 d5 d6 d7 d8 d9 d10 : ZV), Gr 2 p → g12_finds_63 kg15 p v1 v2 v3 → ZJ 2 269 63 [zR 12 1, zI v1, zI v2, zI v3, d4, d5, d6, d7, d8, d9, d10] [] p (hwV (v12_finds_63 kv15 p v1 v2 v3)) := r12_finds_63 v12_wants g12_wants ok268 v12_least g12_least ok244 v12_abs g12_abs ok216 (v12_finds_64 kv15) (g12_finds_64 kg15) (t12_finds_64 kv15 kg15 hk15)
set_option maxRecDepth 100000 in
theorem r12_finds_339 (F268 : PM → Int32 → Int32 → Int32 → Int32) (G268 : PM → Int32 → Int32 → Int32 → Prop) (o268 : CalOK 2 (CC268 F268 G268)) (F244 : PM → Int32 → Int32 → Int32) (G244 : PM → Int32 → Int32 → Prop) (o244 : CalOK 2 (CC244 F244 G244)) (F216 : PM → Int32 → Int32) (G216 : PM → Int32 → Prop) (o216 : CalOK 2 (CC216 F216 G216)) : ∀ (p : PM) (d1 d2 d3 d4 d5 d6 d7 d8 d9 d10 : ZV), Gr 2 p → bg12_finds_339 p → ZJ 2 269 339 [zR 12 1, d1, d2, d3, d4, d5, d6, d7, d8, d9, d10] [] p (hwV (bv12_finds_339 p)) := by
  intro p  d1 d2 d3 d4 d5 d6 d7 d8 d9 d10 hg H
  exact rwV (n := 3000) (q := 339) (la := [zR 12 1, d1, d2, d3, d4, d5, d6, d7, d8, d9, d10]) (sa := []) (ks := [fun _ _ s => s, fun _ _ s => s, fun _ _ s => s, fun _ _ s => s, fun _ _ s => s, fun _ _ s => s]) (gs := [fun _ _ _ => False, fun _ _ _ => False, fun _ _ _ => False, fun _ _ _ => False, fun _ _ _ => False, fun _ _ _ => False]) (fcons o268 (fcons o244 (fcons o216 (fnil)))) tab269 pc269 ⟨fun _ _ _ _ H => H.elim, fun _ _ _ _ H => H.elim, fun _ _ _ _ H => H.elim, fun _ _ _ _ H => H.elim, fun _ _ _ _ H => H.elim, fun _ _ _ _ H => H.elim, trivial⟩ hg H
theorem t12_finds_339 : ∀ (p : PM) (d1 d2 d3 d4 d5 d6 d7 d8 d9 d10 : ZV), Gr 2 p → g12_finds_339 p → ZJ 2 269 339 [zR 12 1, d1, d2, d3, d4, d5, d6, d7, d8, d9, d10] [] p (hwV (v12_finds_339 p)) := r12_finds_339 v12_wants g12_wants ok268 v12_least g12_least ok244 v12_abs g12_abs ok216
set_option maxRecDepth 100000 in
theorem r12_finds_15 (F268 : PM → Int32 → Int32 → Int32 → Int32) (G268 : PM → Int32 → Int32 → Int32 → Prop) (o268 : CalOK 2 (CC268 F268 G268)) (F244 : PM → Int32 → Int32 → Int32) (G244 : PM → Int32 → Int32 → Prop) (o244 : CalOK 2 (CC244 F244 G244)) (F216 : PM → Int32 → Int32) (G216 : PM → Int32 → Prop) (o216 : CalOK 2 (CC216 F216 G216)) (kv63 : PM → Int32 → Int32 → Int32 → PM) (kg63 : PM → Int32 → Int32 → Int32 → Prop) (hk63 : ∀ (p : PM) (v1 : Int32) (v2 : Int32) (v3 : Int32) (d4 d5 d6 d7 d8 d9 d10 : ZV), Gr 2 p → kg63 p v1 v2 v3 → ZJ 2 269 63 [zR 12 1, zI v1, zI v2, zI v3, d4, d5, d6, d7, d8, d9, d10] [] p (hwV (kv63 p v1 v2 v3))) (kv64 : PM → Int32 → Int32 → Int32 → Int32 → PM) (kg64 : PM → Int32 → Int32 → Int32 → Int32 → Prop) (hk64 : ∀ (p : PM) (v1 : Int32) (v2 : Int32) (v3 : Int32) (s0 : Int32) (d4 d5 d6 d7 d8 d9 d10 : ZV), Gr 2 p → kg64 p v1 v2 v3 s0 → ZJ 2 269 64 [zR 12 1, zI v1, zI v2, zI v3, d4, d5, d6, d7, d8, d9, d10] [zI s0] p (hwV (kv64 p v1 v2 v3 s0))) (kv339 : PM → PM) (kg339 : PM → Prop) (hk339 : ∀ (p : PM) (d1 d2 d3 d4 d5 d6 d7 d8 d9 d10 : ZV), Gr 2 p → kg339 p  → ZJ 2 269 339 [zR 12 1, d1, d2, d3, d4, d5, d6, d7, d8, d9, d10] [] p (hwV (kv339 p ))) : ∀ (p : PM) (v1 : Int32) (v2 : Int32) (v3 : Int32) (d4 d5 d6 d7 d8 d9 d10 : ZV), Gr 2 p → bg12_finds_15 F244 G244 F268 G268 kg63 kg64 kg339 p v1 v2 v3 → ZJ 2 269 15 [zR 12 1, zI v1, zI v2, zI v3, d4, d5, d6, d7, d8, d9, d10] [] p (hwV (bv12_finds_15 F244 F268 kv63 kv64 kv339 p v1 v2 v3)) := by
  intro p v1 v2 v3 d4 d5 d6 d7 d8 d9 d10 hg H
  exact rwV (n := 3000) (q := 15) (la := [zR 12 1, zI v1, zI v2, zI v3, d4, d5, d6, d7, d8, d9, d10]) (sa := []) (ks := [fun _ _ s => s, fun la sa s => kv63 s (ai la 1) (ai la 2) (ai la 3), fun la sa s => kv64 s (ai la 1) (ai la 2) (ai la 3) (ai sa 0), fun _ _ s => s, fun _ _ s => s, fun la sa s => kv339 s]) (gs := [fun _ _ _ => False, fun la sa s => zsw (tc2 la [(112, 1), (0, 0), (0, 0), (0, 0), (2, 0), (2, 0), (2, 0), (2, 0), (2, 0), (2, 0), (2, 0)] && tc2 sa []) False (kg63 s (ai la 1) (ai la 2) (ai la 3)), fun la sa s => zsw (tc2 la [(112, 1), (0, 0), (0, 0), (0, 0), (2, 0), (2, 0), (2, 0), (2, 0), (2, 0), (2, 0), (2, 0)] && tc2 sa [(0, 0)]) False (kg64 s (ai la 1) (ai la 2) (ai la 3) (ai sa 0)), fun _ _ _ => False, fun _ _ _ => False, fun la sa s => zsw (tc2 la [(112, 1), (2, 0), (2, 0), (2, 0), (2, 0), (2, 0), (2, 0), (2, 0), (2, 0), (2, 0), (2, 0)] && tc2 sa []) False (kg339 s )]) (fcons o268 (fcons o244 (fcons o216 (fnil)))) tab269 pc269 ⟨fun _ _ _ _ H => H.elim, fun la sa s hg H => zcut H fun H => hk63 s (ai la 1) (ai la 2) (ai la 3) (zld la 4) (zld la 5) (zld la 6) (zld la 7) (zld la 8) (zld la 9) (zld la 10) hg H, fun la sa s hg H => zcut H fun H => hk64 s (ai la 1) (ai la 2) (ai la 3) (ai sa 0) (zld la 4) (zld la 5) (zld la 6) (zld la 7) (zld la 8) (zld la 9) (zld la 10) hg H, fun _ _ _ _ H => H.elim, fun _ _ _ _ H => H.elim, fun la sa s hg H => zcut H fun H => hk339 s (zld la 1) (zld la 2) (zld la 3) (zld la 4) (zld la 5) (zld la 6) (zld la 7) (zld la 8) (zld la 9) (zld la 10) hg H, trivial⟩ hg H
theorem t12_finds_15 : ∀ (n : Nat), ∀ (p : PM) (v1 : Int32) (v2 : Int32) (v3 : Int32) (d4 d5 d6 d7 d8 d9 d10 : ZV), Gr 2 p → g12_finds_15 n p v1 v2 v3 → ZJ 2 269 15 [zR 12 1, zI v1, zI v2, zI v3, d4, d5, d6, d7, d8, d9, d10] [] p (hwV (v12_finds_15 n p v1 v2 v3)) := by
  intro n
  induction n with
  | zero =>
    intro p v1 v2 v3 d4 d5 d6 d7 d8 d9 d10 hg H
    exact H.elim
  | succ n ih => exact r12_finds_15 v12_wants g12_wants ok268 v12_least g12_least ok244 v12_abs g12_abs ok216 (v12_finds_63 (v12_finds_15 n)) (g12_finds_63 (g12_finds_15 n)) (t12_finds_63 (v12_finds_15 n) (g12_finds_15 n) ih) (v12_finds_64 (v12_finds_15 n)) (g12_finds_64 (g12_finds_15 n)) (t12_finds_64 (v12_finds_15 n) (g12_finds_15 n) ih) (v12_finds_339) (g12_finds_339) (t12_finds_339)
set_option maxRecDepth 100000 in
theorem r12_finds (F268 : PM → Int32 → Int32 → Int32 → Int32) (G268 : PM → Int32 → Int32 → Int32 → Prop) (o268 : CalOK 2 (CC268 F268 G268)) (F244 : PM → Int32 → Int32 → Int32) (G244 : PM → Int32 → Int32 → Prop) (o244 : CalOK 2 (CC244 F244 G244)) (F216 : PM → Int32 → Int32) (G216 : PM → Int32 → Prop) (o216 : CalOK 2 (CC216 F216 G216)) (kv15 : PM → Int32 → Int32 → Int32 → PM) (kg15 : PM → Int32 → Int32 → Int32 → Prop) (hk15 : ∀ (p : PM) (v1 : Int32) (v2 : Int32) (v3 : Int32) (d4 d5 d6 d7 d8 d9 d10 : ZV), Gr 2 p → kg15 p v1 v2 v3 → ZJ 2 269 15 [zR 12 1, zI v1, zI v2, zI v3, d4, d5, d6, d7, d8, d9, d10] [] p (hwV (kv15 p v1 v2 v3))) : ∀ (p : PM) (v1 : Int32), Gr 2 p → bg12_finds kg15 p v1 → ZJ 2 269 0 [zR 12 1, zI v1, zJ, zJ, zJ, zJ, zJ, zJ, zJ, zJ, zJ] [] p (hwV (bv12_finds kv15 p v1)) := by
  intro p v1  hg H
  exact rwV (n := 3000) (q := 0) (la := [zR 12 1, zI v1, zJ, zJ, zJ, zJ, zJ, zJ, zJ, zJ, zJ]) (sa := []) (ks := [fun la sa s => kv15 s (ai la 1) (ai la 2) (ai la 3), fun _ _ s => s, fun _ _ s => s, fun _ _ s => s, fun _ _ s => s, fun _ _ s => s]) (gs := [fun la sa s => zsw (tc2 la [(112, 1), (0, 0), (0, 0), (0, 0), (2, 0), (2, 0), (2, 0), (2, 0), (2, 0), (2, 0), (2, 0)] && tc2 sa []) False (kg15 s (ai la 1) (ai la 2) (ai la 3)), fun _ _ _ => False, fun _ _ _ => False, fun _ _ _ => False, fun _ _ _ => False, fun _ _ _ => False]) (fcons o268 (fcons o244 (fcons o216 (fnil)))) tab269 pc269 ⟨fun la sa s hg H => zcut H fun H => hk15 s (ai la 1) (ai la 2) (ai la 3) (zld la 4) (zld la 5) (zld la 6) (zld la 7) (zld la 8) (zld la 9) (zld la 10) hg H, fun _ _ _ _ H => H.elim, fun _ _ _ _ H => H.elim, fun _ _ _ _ H => H.elim, fun _ _ _ _ H => H.elim, fun _ _ _ _ H => H.elim, trivial⟩ hg H
theorem t12_finds : ∀ (p : PM) (v1 : Int32), Gr 2 p → g12_finds p v1 → ZJ 2 269 0 [zR 12 1, zI v1, zJ, zJ, zJ, zJ, zJ, zJ, zJ, zJ, zJ] [] p (hwV (v12_finds p v1)) := r12_finds v12_wants g12_wants ok268 v12_least g12_least ok244 v12_abs g12_abs ok216 (v12_finds_15 FU) (g12_finds_15 FU) (t12_finds_15 FU)
def CC269 (F : PM → Int32 → PM) (G : PM → Int32 → Prop) : Cal := (269, [15, 0], 0, false, fun as p => (zJ, (F p (ai as 1))), fun as p => zsw (tc2 as [(112, 1), (0, 0)]) False (G p (ai as 1)))
set_option maxRecDepth 100000 in
theorem okr269 (F : PM → Int32 → PM) (G : PM → Int32 → Prop) (h : ∀ (p : PM) (v1 : Int32), Gr 2 p → G p v1 → ZJ 2 269 0 [zR 12 1, zI v1, zJ, zJ, zJ, zJ, zJ, zJ, zJ, zJ, zJ] [] p (hwV (F p v1))) : CalOK 2 (CC269 F G) := cal_ok (m := 11) (by unfold mL; rw [mX_269]) (fun as p hg H => h p (ai as 1) hg H)
theorem ok269 : CalOK 2 (CC269 v12_finds g12_finds) := okr269 v12_finds g12_finds t12_finds
