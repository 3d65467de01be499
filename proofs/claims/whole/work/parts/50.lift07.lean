/-! methods as functions over one part, by program (wip/whole/lift.py) -/
noncomputable def bv12_clearsGets_2 (kv2 : PM → Int32 → PM) (p : PM) (v1 : Int32) : PM :=
  if v1 < (cn 44) then (
    let p1 : PM := pI p 13 29 (v1).toNatClampNeg (cn 0)
    kv2 p1 (v1 + (cn 1)))
  else (
    p)
noncomputable def v12_clearsGets_2 (n : Nat) : PM → Int32 → PM := Nat.rec (motive := fun _ => PM → Int32 → PM) (fun p _ => p) (fun _ ih => bv12_clearsGets_2 ih) n
theorem ev12_clearsGets_2 (n : Nat) (p : PM) (v1 : Int32) : v12_clearsGets_2 (n + 1) p v1 = bv12_clearsGets_2 (v12_clearsGets_2 n) p v1 := rfl
noncomputable def bg12_clearsGets_2 (kg2 : PM → Int32 → Prop) (p : PM) (v1 : Int32) : Prop :=
  if v1 < (cn 44) then (
    (inb v1 44) ∧ (
    let p1 : PM := pI p 13 29 (v1).toNatClampNeg (cn 0)
    kg2 p1 (v1 + (cn 1))))
  else (
    True)
noncomputable def g12_clearsGets_2 (n : Nat) : PM → Int32 → Prop := Nat.rec (motive := fun _ => PM → Int32 → Prop) (fun _ _ => False) (fun _ ih => bg12_clearsGets_2 ih) n
theorem eg12_clearsGets_2 (n : Nat) (p : PM) (v1 : Int32) : g12_clearsGets_2 (n + 1) p v1 = bg12_clearsGets_2 (g12_clearsGets_2 n) p v1 := rfl
noncomputable def bv12_clearsGets (kv2 : PM → Int32 → PM) (p : PM) : PM :=
  kv2 p (cn 0)
noncomputable def v12_clearsGets (p : PM) : PM := bv12_clearsGets (v12_clearsGets_2 FU) p
noncomputable def bg12_clearsGets (kg2 : PM → Int32 → Prop) (p : PM) : Prop :=
  kg2 p (cn 0)
noncomputable def g12_clearsGets (p : PM) : Prop := bg12_clearsGets (g12_clearsGets_2 FU) p
def R243 : List Row := [(0, .iconst 0, 1, 0, (0, 0, 0, 0, 0, 0)), (1, .istore_n 1, 1, 0, (0, 0, 0, 0, 0, 0)), (2, .iload_n 1, 1, 1, (0, 0, 0, 0, 0, 0)), (3, .bipush 44, 2, 0, (0, 0, 0, 0, 0, 44)), (5, .if_icmp .ge 16, 3, 0, (0, 0, 0, 0, 0, 0)), (8, .aload_n 0, 1, 0, (0, 0, 0, 0, 0, 0)), (9, .getfield 117, 3, 0, (12, 38, 16, 2, 29, 0)), (12, .iload_n 1, 1, 0, (0, 0, 0, 0, 0, 0)), (13, .iconst 0, 1, 0, (0, 0, 0, 0, 0, 0)), (14, .iastore, 1, 0, (13, 44, 0, 0, 0, 0)), (15, .iinc 1 1, 3, 0, (0, 0, 0, 0, 0, 1)), (18, .goto (-16), 3, 0, (0, 0, 0, 0, 0, 0)), (21, .return_, 1, 0, (0, 0, 0, 0, 0, 0))]
set_option maxRecDepth 100000 in
theorem rk243 : R243.all (rok 2 243 0 []) = true := by decide +kernel
set_option maxRecDepth 100000 in
theorem tab243 : TabOK 2 243 0 [] R243 := tab_ok (K := K243) rfl rfl (fun h => d243 h) rk243 (by decide +kernel)
set_option maxRecDepth 100000 in
theorem pc243 : cutpc [2] R243 = true := by decide +kernel
set_option maxRecDepth 100000 in
theorem r12_clearsGets_2 (kv2 : PM → Int32 → PM) (kg2 : PM → Int32 → Prop) (hk2 : ∀ (p : PM) (v1 : Int32), Gr 2 p → kg2 p v1 → ZJ 2 243 2 [zR 12 1, zI v1] [] p (hwV (kv2 p v1))) : ∀ (p : PM) (v1 : Int32), Gr 2 p → bg12_clearsGets_2 kg2 p v1 → ZJ 2 243 2 [zR 12 1, zI v1] [] p (hwV (bv12_clearsGets_2 kv2 p v1)) := by
  intro p v1  hg H
  exact rwV (n := 3000) (q := 2) (la := [zR 12 1, zI v1]) (sa := []) (ks := [fun la sa s => kv2 s (ai la 1)]) (gs := [fun la sa s => zsw (tc2 la [(112, 1), (0, 0)] && tc2 sa []) False (kg2 s (ai la 1))]) (fnil) tab243 pc243 ⟨fun la sa s hg H => zcut H fun H => hk2 s (ai la 1) hg H, trivial⟩ hg H
theorem t12_clearsGets_2 : ∀ (n : Nat), ∀ (p : PM) (v1 : Int32), Gr 2 p → g12_clearsGets_2 n p v1 → ZJ 2 243 2 [zR 12 1, zI v1] [] p (hwV (v12_clearsGets_2 n p v1)) := by
  intro n
  induction n with
  | zero =>
    intro p v1  hg H
    exact H.elim
  | succ n ih => exact r12_clearsGets_2 (v12_clearsGets_2 n) (g12_clearsGets_2 n) ih
set_option maxRecDepth 100000 in
theorem r12_clearsGets (kv2 : PM → Int32 → PM) (kg2 : PM → Int32 → Prop) (hk2 : ∀ (p : PM) (v1 : Int32), Gr 2 p → kg2 p v1 → ZJ 2 243 2 [zR 12 1, zI v1] [] p (hwV (kv2 p v1))) : ∀ (p : PM), Gr 2 p → bg12_clearsGets kg2 p → ZJ 2 243 0 [zR 12 1, zJ] [] p (hwV (bv12_clearsGets kv2 p)) := by
  intro p   hg H
  exact rwV (n := 3000) (q := 0) (la := [zR 12 1, zJ]) (sa := []) (ks := [fun la sa s => kv2 s (ai la 1)]) (gs := [fun la sa s => zsw (tc2 la [(112, 1), (0, 0)] && tc2 sa []) False (kg2 s (ai la 1))]) (fnil) tab243 pc243 ⟨fun la sa s hg H => zcut H fun H => hk2 s (ai la 1) hg H, trivial⟩ hg H
theorem t12_clearsGets : ∀ (p : PM), Gr 2 p → g12_clearsGets p → ZJ 2 243 0 [zR 12 1, zJ] [] p (hwV (v12_clearsGets p)) := r12_clearsGets (v12_clearsGets_2 FU) (g12_clearsGets_2 FU) (t12_clearsGets_2 FU)
def CC243 (F : PM → PM) (G : PM → Prop) : Cal := (243, [15], 0, false, fun as p => (zJ, (F p )), fun as p => zsw (tc2 as [(112, 1)]) False (G p ))
set_option maxRecDepth 100000 in
theorem okr243 (F : PM → PM) (G : PM → Prop) (h : ∀ (p : PM), Gr 2 p → G p  → ZJ 2 243 0 [zR 12 1, zJ] [] p (hwV (F p ))) : CalOK 2 (CC243 F G) := cal_ok (m := 2) (by unfold mL; rw [mX_243]) (fun as p hg H => h p  hg H)
theorem ok243 : CalOK 2 (CC243 v12_clearsGets g12_clearsGets) := okr243 v12_clearsGets g12_clearsGets t12_clearsGets
noncomputable def bv12_least (p : PM) (v1 : Int32) (v2 : Int32) : Int32 :=
  if v1 < v2 then (
    v1)
  else (
    v2)
noncomputable def v12_least (p : PM) (v1 : Int32) (v2 : Int32) : Int32 := bv12_least p v1 v2
noncomputable def bg12_least (p : PM) (v1 : Int32) (v2 : Int32) : Prop :=
  if v1 < v2 then (
    True)
  else (
    True)
noncomputable def g12_least (p : PM) (v1 : Int32) (v2 : Int32) : Prop := bg12_least p v1 v2
def R244 : List Row := [(0, .iload_n 1, 1, 0, (0, 0, 0, 0, 0, 0)), (1, .iload_n 2, 1, 0, (0, 0, 0, 0, 0, 0)), (2, .if_icmp .ge 7, 3, 0, (0, 0, 0, 0, 0, 0)), (5, .iload_n 1, 1, 0, (0, 0, 0, 0, 0, 0)), (6, .goto 4, 3, 0, (0, 0, 0, 0, 0, 0)), (9, .iload_n 2, 1, 0, (0, 0, 0, 0, 0, 0)), (10, .ireturn, 1, 0, (0, 0, 0, 0, 0, 0))]
set_option maxRecDepth 100000 in
theorem rk244 : R244.all (rok 2 244 1 []) = true := by decide +kernel
set_option maxRecDepth 100000 in
theorem tab244 : TabOK 2 244 1 [] R244 := tab_ok (K := K244) rfl rfl (fun h => d244 h) rk244 (by decide +kernel)
set_option maxRecDepth 100000 in
theorem pc244 : cutpc [] R244 = true := by decide +kernel
set_option maxRecDepth 100000 in
theorem r12_least (p : PM) (hg : Gr 2 p) : ∀ (v1 : Int32) (v2 : Int32), bg12_least p v1 v2 → ZJ 2 244 0 [zR 12 1, zI v1, zI v2] [] p (hoI p (bv12_least p v1 v2)) := by
  intro v1 v2  H
  exact roI (n := 3000) (q := 0) (la := [zR 12 1, zI v1, zI v2]) (sa := []) (ks := []) (gs := []) (fnil) tab244 pc244 trivial hg H
theorem t12_least (p : PM) (hg : Gr 2 p) : ∀ (v1 : Int32) (v2 : Int32), g12_least p v1 v2 → ZJ 2 244 0 [zR 12 1, zI v1, zI v2] [] p (hoI p (v12_least p v1 v2)) := r12_least p hg
def CC244 (F : PM → Int32 → Int32 → Int32) (G : PM → Int32 → Int32 → Prop) : Cal := (244, [15, 0, 0], 1, true, fun as p => (zI (F p (ai as 1) (ai as 2)), p), fun as p => zsw (tc2 as [(112, 1), (0, 0), (0, 0)]) False (G p (ai as 1) (ai as 2)))
set_option maxRecDepth 100000 in
theorem okr244 (F : PM → Int32 → Int32 → Int32) (G : PM → Int32 → Int32 → Prop) (h : ∀ (p : PM) (v1 : Int32) (v2 : Int32), Gr 2 p → G p v1 v2 → ZJ 2 244 0 [zR 12 1, zI v1, zI v2] [] p (hoI p (F p v1 v2))) : CalOK 2 (CC244 F G) := cal_ok (m := 3) (by unfold mL; rw [mX_244]) (fun as p hg H => h p (ai as 1) (ai as 2) hg H)
theorem ok244 : CalOK 2 (CC244 v12_least g12_least) := okr244 v12_least g12_least (fun p v1 v2 hg H => t12_least p hg v1 v2 H)
noncomputable def bv12_sharesByTurns_14 (F226 : PM → Int32 → Int32) (F242 : PM → Int32 → Int32 → Int32 → Int32 → Int32) (F244 : PM → Int32 → Int32 → Int32) (kv14 : PM → Int32 → Int32 → Int32 → Int32 → Int32 → PM) (p : PM) (v1 : Int32) (v2 : Int32) (v3 : Int32) (v5 : Int32) (v6 : Int32) : PM :=
  if v6 < 0 then (
    p)
  else (
    let p1 : PM := pI p 13 29 (v6).toNatClampNeg (F244 p v5 (F226 p v6))
    let x2 : Int32 := (v5 - (p1.1 13 29 (v6).toNatClampNeg))
    let x3 : Int32 := (F242 p1 v1 v2 v3 (p1.1 13 23 (v6).toNatClampNeg))
    kv14 p1 v1 v2 v3 x2 x3)
noncomputable def v12_sharesByTurns_14 (n : Nat) : PM → Int32 → Int32 → Int32 → Int32 → Int32 → PM := Nat.rec (motive := fun _ => PM → Int32 → Int32 → Int32 → Int32 → Int32 → PM) (fun p _ _ _ _ _ => p) (fun _ ih => bv12_sharesByTurns_14 v12_showsNow v12_behindTurn v12_least ih) n
theorem ev12_sharesByTurns_14 (n : Nat) (p : PM) (v1 : Int32) (v2 : Int32) (v3 : Int32) (v5 : Int32) (v6 : Int32) : v12_sharesByTurns_14 (n + 1) p v1 v2 v3 v5 v6 = bv12_sharesByTurns_14 v12_showsNow v12_behindTurn v12_least (v12_sharesByTurns_14 n) p v1 v2 v3 v5 v6 := rfl
noncomputable def bg12_sharesByTurns_14 (F226 : PM → Int32 → Int32) (G226 : PM → Int32 → Prop) (F242 : PM → Int32 → Int32 → Int32 → Int32 → Int32) (G242 : PM → Int32 → Int32 → Int32 → Int32 → Prop) (F244 : PM → Int32 → Int32 → Int32) (G244 : PM → Int32 → Int32 → Prop) (kg14 : PM → Int32 → Int32 → Int32 → Int32 → Int32 → Prop) (p : PM) (v1 : Int32) (v2 : Int32) (v3 : Int32) (v5 : Int32) (v6 : Int32) : Prop :=
  if v6 < 0 then (
    True)
  else (
    (G226 p v6) ∧ (
    (G244 p v5 (F226 p v6)) ∧ (
    (inb v6 44) ∧ (
    let p1 : PM := pI p 13 29 (v6).toNatClampNeg (F244 p v5 (F226 p v6))
    (inb v6 44) ∧ (
    let x2 : Int32 := (v5 - (p1.1 13 29 (v6).toNatClampNeg))
    (inb v6 44) ∧ (
    (G242 p1 v1 v2 v3 (p1.1 13 23 (v6).toNatClampNeg)) ∧ (
    let x3 : Int32 := (F242 p1 v1 v2 v3 (p1.1 13 23 (v6).toNatClampNeg))
    kg14 p1 v1 v2 v3 x2 x3)))))))
noncomputable def g12_sharesByTurns_14 (n : Nat) : PM → Int32 → Int32 → Int32 → Int32 → Int32 → Prop := Nat.rec (motive := fun _ => PM → Int32 → Int32 → Int32 → Int32 → Int32 → Prop) (fun _ _ _ _ _ _ => False) (fun _ ih => bg12_sharesByTurns_14 v12_showsNow g12_showsNow v12_behindTurn g12_behindTurn v12_least g12_least ih) n
theorem eg12_sharesByTurns_14 (n : Nat) (p : PM) (v1 : Int32) (v2 : Int32) (v3 : Int32) (v5 : Int32) (v6 : Int32) : g12_sharesByTurns_14 (n + 1) p v1 v2 v3 v5 v6 = bg12_sharesByTurns_14 v12_showsNow g12_showsNow v12_behindTurn g12_behindTurn v12_least g12_least (g12_sharesByTurns_14 n) p v1 v2 v3 v5 v6 := rfl
noncomputable def bv12_sharesByTurns (F242 : PM → Int32 → Int32 → Int32 → Int32 → Int32) (kv14 : PM → Int32 → Int32 → Int32 → Int32 → Int32 → PM) (p : PM) (v1 : Int32) (v2 : Int32) (v3 : Int32) (v4 : Int32) : PM :=
  let x1 : Int32 := (F242 p v1 v2 v3 (cn (-1)))
  kv14 p v1 v2 v3 v4 x1
noncomputable def v12_sharesByTurns (p : PM) (v1 : Int32) (v2 : Int32) (v3 : Int32) (v4 : Int32) : PM := bv12_sharesByTurns v12_behindTurn (v12_sharesByTurns_14 FU) p v1 v2 v3 v4
noncomputable def bg12_sharesByTurns (F242 : PM → Int32 → Int32 → Int32 → Int32 → Int32) (G242 : PM → Int32 → Int32 → Int32 → Int32 → Prop) (kg14 : PM → Int32 → Int32 → Int32 → Int32 → Int32 → Prop) (p : PM) (v1 : Int32) (v2 : Int32) (v3 : Int32) (v4 : Int32) : Prop :=
  (G242 p v1 v2 v3 (cn (-1))) ∧ (
  let x1 : Int32 := (F242 p v1 v2 v3 (cn (-1)))
  kg14 p v1 v2 v3 v4 x1)
noncomputable def g12_sharesByTurns (p : PM) (v1 : Int32) (v2 : Int32) (v3 : Int32) (v4 : Int32) : Prop := bg12_sharesByTurns v12_behindTurn g12_behindTurn (g12_sharesByTurns_14 FU) p v1 v2 v3 v4
def R245 : List Row := [(0, .iload 4, 2, 0, (0, 0, 0, 0, 0, 0)), (2, .istore 5, 2, 0, (0, 0, 0, 0, 0, 0)), (4, .aload_n 0, 1, 0, (0, 0, 0, 0, 0, 0)), (5, .iload_n 1, 1, 0, (0, 0, 0, 0, 0, 0)), (6, .iload_n 2, 1, 0, (0, 0, 0, 0, 0, 0)), (7, .iload_n 3, 1, 0, (0, 0, 0, 0, 0, 0)), (8, .iconst (-1), 1, 0, (0, 0, 0, 0, 0, -1)), (9, .invokevirtual 254, 3, 0, (0, 5, 0, 0, 1, 0)), (12, .istore 6, 2, 0, (0, 0, 0, 0, 0, 0)), (14, .iload 6, 2, 1, (0, 0, 0, 0, 0, 0)), (16, .ifCond .lt 53, 3, 0, (0, 0, 0, 0, 0, 0)), (19, .aload_n 0, 1, 0, (0, 0, 0, 0, 0, 0)), (20, .getfield 117, 3, 0, (12, 38, 16, 2, 29, 0)), (23, .iload 6, 2, 0, (0, 0, 0, 0, 0, 0)), (25, .aload_n 0, 1, 0, (0, 0, 0, 0, 0, 0)), (26, .iload 5, 2, 0, (0, 0, 0, 0, 0, 0)), (28, .aload_n 0, 1, 0, (0, 0, 0, 0, 0, 0)), (29, .iload 6, 2, 0, (0, 0, 0, 0, 0, 0)), (31, .invokevirtual 258, 3, 0, (1, 2, 0, 0, 1, 0)), (34, .invokevirtual 261, 3, 0, (2, 3, 0, 0, 1, 0)), (37, .iastore, 1, 0, (13, 44, 0, 0, 0, 0)), (38, .iload 5, 2, 0, (0, 0, 0, 0, 0, 0)), (40, .aload_n 0, 1, 0, (0, 0, 0, 0, 0, 0)), (41, .getfield 117, 3, 0, (12, 38, 16, 2, 29, 0)), (44, .iload 6, 2, 0, (0, 0, 0, 0, 0, 0)), (46, .iaload, 1, 0, (13, 44, 0, 0, 0, 0)), (47, .isub, 1, 0, (0, 0, 0, 0, 0, 0)), (48, .istore 5, 2, 0, (0, 0, 0, 0, 0, 0)), (50, .aload_n 0, 1, 0, (0, 0, 0, 0, 0, 0)), (51, .iload_n 1, 1, 0, (0, 0, 0, 0, 0, 0)), (52, .iload_n 2, 1, 0, (0, 0, 0, 0, 0, 0)), (53, .iload_n 3, 1, 0, (0, 0, 0, 0, 0, 0)), (54, .aload_n 0, 1, 0, (0, 0, 0, 0, 0, 0)), (55, .getfield 96, 3, 0, (12, 31, 16, 2, 23, 0)), (58, .iload 6, 2, 0, (0, 0, 0, 0, 0, 0)), (60, .iaload, 1, 0, (13, 44, 0, 0, 0, 0)), (61, .invokevirtual 254, 3, 0, (0, 5, 0, 0, 1, 0)), (64, .istore 6, 2, 0, (0, 0, 0, 0, 0, 0)), (66, .goto (-52), 3, 0, (0, 0, 0, 0, 0, 0)), (69, .return_, 1, 0, (0, 0, 0, 0, 0, 0))]
set_option maxRecDepth 100000 in
theorem rk245 : R245.all (rok 2 245 0 [(242, [15, 0, 0, 0, 0]), (226, [15, 0]), (244, [15, 0, 0])]) = true := by decide +kernel
set_option maxRecDepth 100000 in
theorem tab245 {F242 : PM → Int32 → Int32 → Int32 → Int32 → Int32} {G242 : PM → Int32 → Int32 → Int32 → Int32 → Prop} {F226 : PM → Int32 → Int32} {G226 : PM → Int32 → Prop} {F244 : PM → Int32 → Int32 → Int32} {G244 : PM → Int32 → Int32 → Prop} : TabOK 2 245 0 [CC242 F242 G242, CC226 F226 G226, CC244 F244 G244] R245 := tab_ok (K := K245) rfl rfl (fun h => d245 h) rk245 (by decide +kernel)
set_option maxRecDepth 100000 in
theorem pc245 : cutpc [14] R245 = true := by decide +kernel
set_option maxRecDepth 100000 in
theorem r12_sharesByTurns_14 (F242 : PM → Int32 → Int32 → Int32 → Int32 → Int32) (G242 : PM → Int32 → Int32 → Int32 → Int32 → Prop) (o242 : CalOK 2 (CC242 F242 G242)) (F226 : PM → Int32 → Int32) (G226 : PM → Int32 → Prop) (o226 : CalOK 2 (CC226 F226 G226)) (F244 : PM → Int32 → Int32 → Int32) (G244 : PM → Int32 → Int32 → Prop) (o244 : CalOK 2 (CC244 F244 G244)) (kv14 : PM → Int32 → Int32 → Int32 → Int32 → Int32 → PM) (kg14 : PM → Int32 → Int32 → Int32 → Int32 → Int32 → Prop) (hk14 : ∀ (p : PM) (v1 : Int32) (v2 : Int32) (v3 : Int32) (v5 : Int32) (v6 : Int32) (d4 : ZV), Gr 2 p → kg14 p v1 v2 v3 v5 v6 → ZJ 2 245 14 [zR 12 1, zI v1, zI v2, zI v3, d4, zI v5, zI v6] [] p (hwV (kv14 p v1 v2 v3 v5 v6))) : ∀ (p : PM) (v1 : Int32) (v2 : Int32) (v3 : Int32) (v5 : Int32) (v6 : Int32) (d4 : ZV), Gr 2 p → bg12_sharesByTurns_14 F226 G226 F242 G242 F244 G244 kg14 p v1 v2 v3 v5 v6 → ZJ 2 245 14 [zR 12 1, zI v1, zI v2, zI v3, d4, zI v5, zI v6] [] p (hwV (bv12_sharesByTurns_14 F226 F242 F244 kv14 p v1 v2 v3 v5 v6)) := by
  intro p v1 v2 v3 v5 v6 d4 hg H
  exact rwV (n := 3000) (q := 14) (la := [zR 12 1, zI v1, zI v2, zI v3, d4, zI v5, zI v6]) (sa := []) (ks := [fun la sa s => kv14 s (ai la 1) (ai la 2) (ai la 3) (ai la 5) (ai la 6)]) (gs := [fun la sa s => zsw (tc2 la [(112, 1), (0, 0), (0, 0), (0, 0), (2, 0), (0, 0), (0, 0)] && tc2 sa []) False (kg14 s (ai la 1) (ai la 2) (ai la 3) (ai la 5) (ai la 6))]) (fcons o242 (fcons o226 (fcons o244 (fnil)))) tab245 pc245 ⟨fun la sa s hg H => zcut H fun H => hk14 s (ai la 1) (ai la 2) (ai la 3) (ai la 5) (ai la 6) (zld la 4) hg H, trivial⟩ hg H
theorem t12_sharesByTurns_14 : ∀ (n : Nat), ∀ (p : PM) (v1 : Int32) (v2 : Int32) (v3 : Int32) (v5 : Int32) (v6 : Int32) (d4 : ZV), Gr 2 p → g12_sharesByTurns_14 n p v1 v2 v3 v5 v6 → ZJ 2 245 14 [zR 12 1, zI v1, zI v2, zI v3, d4, zI v5, zI v6] [] p (hwV (v12_sharesByTurns_14 n p v1 v2 v3 v5 v6)) := by
  intro n
  induction n with
  | zero =>
    intro p v1 v2 v3 v5 v6 d4 hg H
    exact H.elim
  | succ n ih => exact r12_sharesByTurns_14 v12_behindTurn g12_behindTurn ok242 v12_showsNow g12_showsNow ok226 v12_least g12_least ok244 (v12_sharesByTurns_14 n) (g12_sharesByTurns_14 n) ih
set_option maxRecDepth 100000 in
theorem r12_sharesByTurns (F242 : PM → Int32 → Int32 → Int32 → Int32 → Int32) (G242 : PM → Int32 → Int32 → Int32 → Int32 → Prop) (o242 : CalOK 2 (CC242 F242 G242)) (F226 : PM → Int32 → Int32) (G226 : PM → Int32 → Prop) (o226 : CalOK 2 (CC226 F226 G226)) (F244 : PM → Int32 → Int32 → Int32) (G244 : PM → Int32 → Int32 → Prop) (o244 : CalOK 2 (CC244 F244 G244)) (kv14 : PM → Int32 → Int32 → Int32 → Int32 → Int32 → PM) (kg14 : PM → Int32 → Int32 → Int32 → Int32 → Int32 → Prop) (hk14 : ∀ (p : PM) (v1 : Int32) (v2 : Int32) (v3 : Int32) (v5 : Int32) (v6 : Int32) (d4 : ZV), Gr 2 p → kg14 p v1 v2 v3 v5 v6 → ZJ 2 245 14 [zR 12 1, zI v1, zI v2, zI v3, d4, zI v5, zI v6] [] p (hwV (kv14 p v1 v2 v3 v5 v6))) : ∀ (p : PM) (v1 : Int32) (v2 : Int32) (v3 : Int32) (v4 : Int32), Gr 2 p → bg12_sharesByTurns F242 G242 kg14 p v1 v2 v3 v4 → ZJ 2 245 0 [zR 12 1, zI v1, zI v2, zI v3, zI v4, zJ, zJ] [] p (hwV (bv12_sharesByTurns F242 kv14 p v1 v2 v3 v4)) := by
  intro p v1 v2 v3 v4  hg H
  exact rwV (n := 3000) (q := 0) (la := [zR 12 1, zI v1, zI v2, zI v3, zI v4, zJ, zJ]) (sa := []) (ks := [fun la sa s => kv14 s (ai la 1) (ai la 2) (ai la 3) (ai la 5) (ai la 6)]) (gs := [fun la sa s => zsw (tc2 la [(112, 1), (0, 0), (0, 0), (0, 0), (2, 0), (0, 0), (0, 0)] && tc2 sa []) False (kg14 s (ai la 1) (ai la 2) (ai la 3) (ai la 5) (ai la 6))]) (fcons o242 (fcons o226 (fcons o244 (fnil)))) tab245 pc245 ⟨fun la sa s hg H => zcut H fun H => hk14 s (ai la 1) (ai la 2) (ai la 3) (ai la 5) (ai la 6) (zld la 4) hg H, trivial⟩ hg H
theorem t12_sharesByTurns : ∀ (p : PM) (v1 : Int32) (v2 : Int32) (v3 : Int32) (v4 : Int32), Gr 2 p → g12_sharesByTurns p v1 v2 v3 v4 → ZJ 2 245 0 [zR 12 1, zI v1, zI v2, zI v3, zI v4, zJ, zJ] [] p (hwV (v12_sharesByTurns p v1 v2 v3 v4)) := r12_sharesByTurns v12_behindTurn g12_behindTurn ok242 v12_showsNow g12_showsNow ok226 v12_least g12_least ok244 (v12_sharesByTurns_14 FU) (g12_sharesByTurns_14 FU) (t12_sharesByTurns_14 FU)
def CC245 (F : PM → Int32 → Int32 → Int32 → Int32 → PM) (G : PM → Int32 → Int32 → Int32 → Int32 → Prop) : Cal := (245, [15, 0, 0, 0, 0], 0, false, fun as p => (zJ, (F p (ai as 1) (ai as 2) (ai as 3) (ai as 4))), fun as p => zsw (tc2 as [(112, 1), (0, 0), (0, 0), (0, 0), (0, 0)]) False (G p (ai as 1) (ai as 2) (ai as 3) (ai as 4)))
set_option maxRecDepth 100000 in
theorem okr245 (F : PM → Int32 → Int32 → Int32 → Int32 → PM) (G : PM → Int32 → Int32 → Int32 → Int32 → Prop) (h : ∀ (p : PM) (v1 : Int32) (v2 : Int32) (v3 : Int32) (v4 : Int32), Gr 2 p → G p v1 v2 v3 v4 → ZJ 2 245 0 [zR 12 1, zI v1, zI v2, zI v3, zI v4, zJ, zJ] [] p (hwV (F p v1 v2 v3 v4))) : CalOK 2 (CC245 F G) := cal_ok (m := 7) (by unfold mL; rw [mX_245]) (fun as p hg H => h p (ai as 1) (ai as 2) (ai as 3) (ai as 4) hg H)
theorem ok245 : CalOK 2 (CC245 v12_sharesByTurns g12_sharesByTurns) := okr245 v12_sharesByTurns g12_sharesByTurns t12_sharesByTurns
noncomputable def bv12_nextBySize_6 (p : PM) (F226 : PM → Int32 → Int32) (F241 : PM → Int32 → Int32 → Int32 → Int32 → Int32) (kv6 : Int32 → Int32 → Int32 → Int32 → Int32 → Int32 → Int32 → Int32) (v1 : Int32) (v2 : Int32) (v3 : Int32) (v4 : Int32) (v5 : Int32) (v6 : Int32) (v7 : Int32) : Int32 :=
  if v7 < (cn 44) then (
    if (F241 p v7 v1 v2 v3) = 0 then (
      kv6 v1 v2 v3 v4 v5 v6 (v7 + (cn 1)))
    else (
      if (F226 p v7) < v4 then (
        if v6 < 0 then (
          kv6 v1 v2 v3 v4 v5 v7 (v7 + (cn 1)))
        else (
          if (F226 p v6) < (F226 p v7) then (
            kv6 v1 v2 v3 v4 v5 v7 (v7 + (cn 1)))
          else (
            if (F226 p v7) = (F226 p v6) then (
              if (p.1 13 23 (v7).toNatClampNeg) < (p.1 13 23 (v6).toNatClampNeg) then (
                kv6 v1 v2 v3 v4 v5 v7 (v7 + (cn 1)))
              else (
                kv6 v1 v2 v3 v4 v5 v6 (v7 + (cn 1))))
            else (
              kv6 v1 v2 v3 v4 v5 v6 (v7 + (cn 1))))))
      else (
        if (F226 p v7) = v4 then (
          if v5 < (p.1 13 23 (v7).toNatClampNeg) then (
            if v6 < 0 then (
              kv6 v1 v2 v3 v4 v5 v7 (v7 + (cn 1)))
            else (
              if (F226 p v6) < (F226 p v7) then (
                kv6 v1 v2 v3 v4 v5 v7 (v7 + (cn 1)))
              else (
                if (F226 p v7) = (F226 p v6) then (
                  if (p.1 13 23 (v7).toNatClampNeg) < (p.1 13 23 (v6).toNatClampNeg) then (
                    kv6 v1 v2 v3 v4 v5 v7 (v7 + (cn 1)))
                  else (
                    kv6 v1 v2 v3 v4 v5 v6 (v7 + (cn 1))))
                else (
                  kv6 v1 v2 v3 v4 v5 v6 (v7 + (cn 1))))))
          else (
            kv6 v1 v2 v3 v4 v5 v6 (v7 + (cn 1))))
        else (
          kv6 v1 v2 v3 v4 v5 v6 (v7 + (cn 1))))))
  else (
    v6)
noncomputable def v12_nextBySize_6 (p : PM) (n : Nat) : Int32 → Int32 → Int32 → Int32 → Int32 → Int32 → Int32 → Int32 := Nat.rec (motive := fun _ => Int32 → Int32 → Int32 → Int32 → Int32 → Int32 → Int32 → Int32) (fun _ _ _ _ _ _ _ => 0) (fun _ ih => bv12_nextBySize_6 p v12_showsNow v12_isAt ih) n
theorem ev12_nextBySize_6 (p : PM) (n : Nat) (v1 : Int32) (v2 : Int32) (v3 : Int32) (v4 : Int32) (v5 : Int32) (v6 : Int32) (v7 : Int32) : v12_nextBySize_6 p (n + 1) v1 v2 v3 v4 v5 v6 v7 = bv12_nextBySize_6 p v12_showsNow v12_isAt (v12_nextBySize_6 p n) v1 v2 v3 v4 v5 v6 v7 := rfl
noncomputable def bg12_nextBySize_6 (p : PM) (F226 : PM → Int32 → Int32) (G226 : PM → Int32 → Prop) (F241 : PM → Int32 → Int32 → Int32 → Int32 → Int32) (G241 : PM → Int32 → Int32 → Int32 → Int32 → Prop) (kg6 : Int32 → Int32 → Int32 → Int32 → Int32 → Int32 → Int32 → Prop) (v1 : Int32) (v2 : Int32) (v3 : Int32) (v4 : Int32) (v5 : Int32) (v6 : Int32) (v7 : Int32) : Prop :=
  if v7 < (cn 44) then (
    (G241 p v7 v1 v2 v3) ∧ (
    if (F241 p v7 v1 v2 v3) = 0 then (
      kg6 v1 v2 v3 v4 v5 v6 (v7 + (cn 1)))
    else (
      (G226 p v7) ∧ (
      if (F226 p v7) < v4 then (
        if v6 < 0 then (
          kg6 v1 v2 v3 v4 v5 v7 (v7 + (cn 1)))
        else (
          (G226 p v7) ∧ (
          (G226 p v6) ∧ (
          if (F226 p v6) < (F226 p v7) then (
            kg6 v1 v2 v3 v4 v5 v7 (v7 + (cn 1)))
          else (
            (G226 p v7) ∧ (
            (G226 p v6) ∧ (
            if (F226 p v7) = (F226 p v6) then (
              (inb v7 44) ∧ (
              (inb v6 44) ∧ (
              if (p.1 13 23 (v7).toNatClampNeg) < (p.1 13 23 (v6).toNatClampNeg) then (
                kg6 v1 v2 v3 v4 v5 v7 (v7 + (cn 1)))
              else (
                kg6 v1 v2 v3 v4 v5 v6 (v7 + (cn 1))))))
            else (
              kg6 v1 v2 v3 v4 v5 v6 (v7 + (cn 1))))))))))
      else (
        (G226 p v7) ∧ (
        if (F226 p v7) = v4 then (
          (inb v7 44) ∧ (
          if v5 < (p.1 13 23 (v7).toNatClampNeg) then (
            if v6 < 0 then (
              kg6 v1 v2 v3 v4 v5 v7 (v7 + (cn 1)))
            else (
              (G226 p v7) ∧ (
              (G226 p v6) ∧ (
              if (F226 p v6) < (F226 p v7) then (
                kg6 v1 v2 v3 v4 v5 v7 (v7 + (cn 1)))
              else (
                (G226 p v7) ∧ (
                (G226 p v6) ∧ (
                if (F226 p v7) = (F226 p v6) then (
                  (inb v7 44) ∧ (
                  (inb v6 44) ∧ (
                  if (p.1 13 23 (v7).toNatClampNeg) < (p.1 13 23 (v6).toNatClampNeg) then (
                    kg6 v1 v2 v3 v4 v5 v7 (v7 + (cn 1)))
                  else (
                    kg6 v1 v2 v3 v4 v5 v6 (v7 + (cn 1))))))
                else (
                  kg6 v1 v2 v3 v4 v5 v6 (v7 + (cn 1))))))))))
          else (
            kg6 v1 v2 v3 v4 v5 v6 (v7 + (cn 1)))))
        else (
          kg6 v1 v2 v3 v4 v5 v6 (v7 + (cn 1)))))))))
  else (
    True)
noncomputable def g12_nextBySize_6 (p : PM) (n : Nat) : Int32 → Int32 → Int32 → Int32 → Int32 → Int32 → Int32 → Prop := Nat.rec (motive := fun _ => Int32 → Int32 → Int32 → Int32 → Int32 → Int32 → Int32 → Prop) (fun _ _ _ _ _ _ _ => False) (fun _ ih => bg12_nextBySize_6 p v12_showsNow g12_showsNow v12_isAt g12_isAt ih) n
theorem eg12_nextBySize_6 (p : PM) (n : Nat) (v1 : Int32) (v2 : Int32) (v3 : Int32) (v4 : Int32) (v5 : Int32) (v6 : Int32) (v7 : Int32) : g12_nextBySize_6 p (n + 1) v1 v2 v3 v4 v5 v6 v7 = bg12_nextBySize_6 p v12_showsNow g12_showsNow v12_isAt g12_isAt (g12_nextBySize_6 p n) v1 v2 v3 v4 v5 v6 v7 := rfl
noncomputable def bv12_nextBySize (p : PM) (kv6 : Int32 → Int32 → Int32 → Int32 → Int32 → Int32 → Int32 → Int32) (v1 : Int32) (v2 : Int32) (v3 : Int32) (v4 : Int32) (v5 : Int32) : Int32 :=
  kv6 v1 v2 v3 v4 v5 (cn (-1)) (cn 0)
noncomputable def v12_nextBySize (p : PM) (v1 : Int32) (v2 : Int32) (v3 : Int32) (v4 : Int32) (v5 : Int32) : Int32 := bv12_nextBySize p (v12_nextBySize_6 p FU) v1 v2 v3 v4 v5
noncomputable def bg12_nextBySize (p : PM) (kg6 : Int32 → Int32 → Int32 → Int32 → Int32 → Int32 → Int32 → Prop) (v1 : Int32) (v2 : Int32) (v3 : Int32) (v4 : Int32) (v5 : Int32) : Prop :=
  kg6 v1 v2 v3 v4 v5 (cn (-1)) (cn 0)
noncomputable def g12_nextBySize (p : PM) (v1 : Int32) (v2 : Int32) (v3 : Int32) (v4 : Int32) (v5 : Int32) : Prop := bg12_nextBySize p (g12_nextBySize_6 p FU) v1 v2 v3 v4 v5
def R247 : List Row := [(0, .iconst (-1), 1, 0, (0, 0, 0, 0, 0, -1)), (1, .istore 6, 2, 0, (0, 0, 0, 0, 0, 0)), (3, .iconst 0, 1, 0, (0, 0, 0, 0, 0, 0)), (4, .istore 7, 2, 0, (0, 0, 0, 0, 0, 0)), (6, .iload 7, 2, 1, (0, 0, 0, 0, 0, 0)), (8, .bipush 44, 2, 0, (0, 0, 0, 0, 0, 44)), (10, .if_icmp .ge 140, 3, 0, (0, 0, 0, 0, 0, 0)), (13, .aload_n 0, 1, 0, (0, 0, 0, 0, 0, 0)), (14, .iload 7, 2, 0, (0, 0, 0, 0, 0, 0)), (16, .iload_n 1, 1, 0, (0, 0, 0, 0, 0, 0)), (17, .iload_n 2, 1, 0, (0, 0, 0, 0, 0, 0)), (18, .iload_n 3, 1, 0, (0, 0, 0, 0, 0, 0)), (19, .invokevirtual 251, 3, 0, (0, 5, 0, 0, 1, 0)), (22, .ifCond .eq 41, 3, 0, (0, 0, 0, 0, 0, 0)), (25, .aload_n 0, 1, 0, (0, 0, 0, 0, 0, 0)), (26, .iload 7, 2, 0, (0, 0, 0, 0, 0, 0)), (28, .invokevirtual 258, 3, 0, (1, 2, 0, 0, 1, 0)), (31, .iload 4, 2, 0, (0, 0, 0, 0, 0, 0)), (33, .if_icmp .lt 26, 3, 0, (0, 0, 0, 0, 0, 0)), (36, .aload_n 0, 1, 0, (0, 0, 0, 0, 0, 0)), (37, .iload 7, 2, 0, (0, 0, 0, 0, 0, 0)), (39, .invokevirtual 258, 3, 0, (1, 2, 0, 0, 1, 0)), (42, .iload 4, 2, 0, (0, 0, 0, 0, 0, 0)), (44, .if_icmp .ne 19, 3, 0, (0, 0, 0, 0, 0, 0)), (47, .aload_n 0, 1, 0, (0, 0, 0, 0, 0, 0)), (48, .getfield 96, 3, 0, (12, 31, 16, 2, 23, 0)), (51, .iload 7, 2, 0, (0, 0, 0, 0, 0, 0)), (53, .iaload, 1, 0, (13, 44, 0, 0, 0, 0)), (54, .iload 5, 2, 0, (0, 0, 0, 0, 0, 0)), (56, .if_icmp .le 7, 3, 0, (0, 0, 0, 0, 0, 0)), (59, .iconst 1, 1, 0, (0, 0, 0, 0, 0, 1)), (60, .goto 4, 3, 0, (0, 0, 0, 0, 0, 0)), (63, .iconst 0, 1, 0, (0, 0, 0, 0, 0, 0)), (64, .istore 8, 2, 0, (0, 0, 0, 0, 0, 0)), (66, .iload 8, 2, 0, (0, 0, 0, 0, 0, 0)), (68, .ifCond .eq 59, 3, 0, (0, 0, 0, 0, 0, 0)), (71, .iload 6, 2, 0, (0, 0, 0, 0, 0, 0)), (73, .ifCond .lt 50, 3, 0, (0, 0, 0, 0, 0, 0)), (76, .aload_n 0, 1, 0, (0, 0, 0, 0, 0, 0)), (77, .iload 7, 2, 0, (0, 0, 0, 0, 0, 0)), (79, .invokevirtual 258, 3, 0, (1, 2, 0, 0, 1, 0)), (82, .aload_n 0, 1, 0, (0, 0, 0, 0, 0, 0)), (83, .iload 6, 2, 0, (0, 0, 0, 0, 0, 0)), (85, .invokevirtual 258, 3, 0, (1, 2, 0, 0, 1, 0)), (88, .if_icmp .gt 35, 3, 0, (0, 0, 0, 0, 0, 0)), (91, .aload_n 0, 1, 0, (0, 0, 0, 0, 0, 0)), (92, .iload 7, 2, 0, (0, 0, 0, 0, 0, 0)), (94, .invokevirtual 258, 3, 0, (1, 2, 0, 0, 1, 0)), (97, .aload_n 0, 1, 0, (0, 0, 0, 0, 0, 0)), (98, .iload 6, 2, 0, (0, 0, 0, 0, 0, 0)), (100, .invokevirtual 258, 3, 0, (1, 2, 0, 0, 1, 0)), (103, .if_icmp .ne 24, 3, 0, (0, 0, 0, 0, 0, 0)), (106, .aload_n 0, 1, 0, (0, 0, 0, 0, 0, 0)), (107, .getfield 96, 3, 0, (12, 31, 16, 2, 23, 0)), (110, .iload 7, 2, 0, (0, 0, 0, 0, 0, 0)), (112, .iaload, 1, 0, (13, 44, 0, 0, 0, 0)), (113, .aload_n 0, 1, 0, (0, 0, 0, 0, 0, 0)), (114, .getfield 96, 3, 0, (12, 31, 16, 2, 23, 0)), (117, .iload 6, 2, 0, (0, 0, 0, 0, 0, 0)), (119, .iaload, 1, 0, (13, 44, 0, 0, 0, 0)), (120, .if_icmp .ge 7, 3, 0, (0, 0, 0, 0, 0, 0)), (123, .iconst 1, 1, 0, (0, 0, 0, 0, 0, 1)), (124, .goto 4, 3, 0, (0, 0, 0, 0, 0, 0)), (127, .iconst 0, 1, 0, (0, 0, 0, 0, 0, 0)), (128, .istore 9, 2, 0, (0, 0, 0, 0, 0, 0)), (130, .iload 9, 2, 0, (0, 0, 0, 0, 0, 0)), (132, .ifCond .eq 8, 3, 0, (0, 0, 0, 0, 0, 0)), (135, .iload 7, 2, 0, (0, 0, 0, 0, 0, 0)), (137, .goto 5, 3, 0, (0, 0, 0, 0, 0, 0)), (140, .iload 6, 2, 0, (0, 0, 0, 0, 0, 0)), (142, .istore 6, 2, 0, (0, 0, 0, 0, 0, 0)), (144, .iinc 7 1, 3, 0, (0, 0, 0, 0, 0, 1)), (147, .goto (-141), 3, 0, (0, 0, 0, 0, 0, 0)), (150, .iload 6, 2, 0, (0, 0, 0, 0, 0, 0)), (152, .ireturn, 1, 0, (0, 0, 0, 0, 0, 0))]
set_option maxRecDepth 100000 in
theorem rk247 : R247.all (rok 2 247 1 [(241, [15, 0, 0, 0, 0]), (226, [15, 0])]) = true := by decide +kernel
set_option maxRecDepth 100000 in
theorem tab247 {F241 : PM → Int32 → Int32 → Int32 → Int32 → Int32} {G241 : PM → Int32 → Int32 → Int32 → Int32 → Prop} {F226 : PM → Int32 → Int32} {G226 : PM → Int32 → Prop} : TabOK 2 247 1 [CC241 F241 G241, CC226 F226 G226] R247 := tab_ok (K := K247) rfl rfl (fun h => d247 h) rk247 (by decide +kernel)
set_option maxRecDepth 100000 in
theorem pc247 : cutpc [6] R247 = true := by decide +kernel
set_option maxRecDepth 100000 in
theorem r12_nextBySize_6 (p : PM) (hg : Gr 2 p) (F241 : PM → Int32 → Int32 → Int32 → Int32 → Int32) (G241 : PM → Int32 → Int32 → Int32 → Int32 → Prop) (o241 : CalOK 2 (CC241 F241 G241)) (F226 : PM → Int32 → Int32) (G226 : PM → Int32 → Prop) (o226 : CalOK 2 (CC226 F226 G226)) (kv6 : Int32 → Int32 → Int32 → Int32 → Int32 → Int32 → Int32 → Int32) (kg6 : Int32 → Int32 → Int32 → Int32 → Int32 → Int32 → Int32 → Prop) (hk6 : ∀ (v1 : Int32) (v2 : Int32) (v3 : Int32) (v4 : Int32) (v5 : Int32) (v6 : Int32) (v7 : Int32) (d8 d9 : ZV), kg6 v1 v2 v3 v4 v5 v6 v7 → ZJ 2 247 6 [zR 12 1, zI v1, zI v2, zI v3, zI v4, zI v5, zI v6, zI v7, d8, d9] [] p (hoI p (kv6 v1 v2 v3 v4 v5 v6 v7))) : ∀ (v1 : Int32) (v2 : Int32) (v3 : Int32) (v4 : Int32) (v5 : Int32) (v6 : Int32) (v7 : Int32) (d8 d9 : ZV), bg12_nextBySize_6 p F226 G226 F241 G241 kg6 v1 v2 v3 v4 v5 v6 v7 → ZJ 2 247 6 [zR 12 1, zI v1, zI v2, zI v3, zI v4, zI v5, zI v6, zI v7, d8, d9] [] p (hoI p (bv12_nextBySize_6 p F226 F241 kv6 v1 v2 v3 v4 v5 v6 v7)) := by
  intro v1 v2 v3 v4 v5 v6 v7 d8 d9 H
  exact roI (n := 3000) (q := 6) (la := [zR 12 1, zI v1, zI v2, zI v3, zI v4, zI v5, zI v6, zI v7, d8, d9]) (sa := []) (ks := [fun la sa _ => kv6 (ai la 1) (ai la 2) (ai la 3) (ai la 4) (ai la 5) (ai la 6) (ai la 7)]) (gs := [fun la sa _ => zsw (tc2 la [(112, 1), (0, 0), (0, 0), (0, 0), (0, 0), (0, 0), (0, 0), (0, 0), (2, 0), (2, 0)] && tc2 sa []) False (kg6 (ai la 1) (ai la 2) (ai la 3) (ai la 4) (ai la 5) (ai la 6) (ai la 7))]) (fcons o241 (fcons o226 (fnil))) tab247 pc247 ⟨fun la sa s hg H => zcut H fun H => hk6 (ai la 1) (ai la 2) (ai la 3) (ai la 4) (ai la 5) (ai la 6) (ai la 7) (zld la 8) (zld la 9) H, trivial⟩ hg H
theorem t12_nextBySize_6 (p : PM) (hg : Gr 2 p) : ∀ (n : Nat), ∀ (v1 : Int32) (v2 : Int32) (v3 : Int32) (v4 : Int32) (v5 : Int32) (v6 : Int32) (v7 : Int32) (d8 d9 : ZV), g12_nextBySize_6 p n v1 v2 v3 v4 v5 v6 v7 → ZJ 2 247 6 [zR 12 1, zI v1, zI v2, zI v3, zI v4, zI v5, zI v6, zI v7, d8, d9] [] p (hoI p (v12_nextBySize_6 p n v1 v2 v3 v4 v5 v6 v7)) := by
  intro n
  induction n with
  | zero =>
    intro v1 v2 v3 v4 v5 v6 v7 d8 d9 H
    exact H.elim
  | succ n ih => exact r12_nextBySize_6 p hg v12_isAt g12_isAt ok241 v12_showsNow g12_showsNow ok226 (v12_nextBySize_6 p n) (g12_nextBySize_6 p n) ih
set_option maxRecDepth 100000 in
theorem r12_nextBySize (p : PM) (hg : Gr 2 p) (F241 : PM → Int32 → Int32 → Int32 → Int32 → Int32) (G241 : PM → Int32 → Int32 → Int32 → Int32 → Prop) (o241 : CalOK 2 (CC241 F241 G241)) (F226 : PM → Int32 → Int32) (G226 : PM → Int32 → Prop) (o226 : CalOK 2 (CC226 F226 G226)) (kv6 : Int32 → Int32 → Int32 → Int32 → Int32 → Int32 → Int32 → Int32) (kg6 : Int32 → Int32 → Int32 → Int32 → Int32 → Int32 → Int32 → Prop) (hk6 : ∀ (v1 : Int32) (v2 : Int32) (v3 : Int32) (v4 : Int32) (v5 : Int32) (v6 : Int32) (v7 : Int32) (d8 d9 : ZV), kg6 v1 v2 v3 v4 v5 v6 v7 → ZJ 2 247 6 [zR 12 1, zI v1, zI v2, zI v3, zI v4, zI v5, zI v6, zI v7, d8, d9] [] p (hoI p (kv6 v1 v2 v3 v4 v5 v6 v7))) : ∀ (v1 : Int32) (v2 : Int32) (v3 : Int32) (v4 : Int32) (v5 : Int32), bg12_nextBySize p kg6 v1 v2 v3 v4 v5 → ZJ 2 247 0 [zR 12 1, zI v1, zI v2, zI v3, zI v4, zI v5, zJ, zJ, zJ, zJ] [] p (hoI p (bv12_nextBySize p kv6 v1 v2 v3 v4 v5)) := by
  intro v1 v2 v3 v4 v5  H
  exact roI (n := 3000) (q := 0) (la := [zR 12 1, zI v1, zI v2, zI v3, zI v4, zI v5, zJ, zJ, zJ, zJ]) (sa := []) (ks := [fun la sa _ => kv6 (ai la 1) (ai la 2) (ai la 3) (ai la 4) (ai la 5) (ai la 6) (ai la 7)]) (gs := [fun la sa _ => zsw (tc2 la [(112, 1), (0, 0), (0, 0), (0, 0), (0, 0), (0, 0), (0, 0), (0, 0), (2, 0), (2, 0)] && tc2 sa []) False (kg6 (ai la 1) (ai la 2) (ai la 3) (ai la 4) (ai la 5) (ai la 6) (ai la 7))]) (fcons o241 (fcons o226 (fnil))) tab247 pc247 ⟨fun la sa s hg H => zcut H fun H => hk6 (ai la 1) (ai la 2) (ai la 3) (ai la 4) (ai la 5) (ai la 6) (ai la 7) (zld la 8) (zld la 9) H, trivial⟩ hg H
theorem t12_nextBySize (p : PM) (hg : Gr 2 p) : ∀ (v1 : Int32) (v2 : Int32) (v3 : Int32) (v4 : Int32) (v5 : Int32), g12_nextBySize p v1 v2 v3 v4 v5 → ZJ 2 247 0 [zR 12 1, zI v1, zI v2, zI v3, zI v4, zI v5, zJ, zJ, zJ, zJ] [] p (hoI p (v12_nextBySize p v1 v2 v3 v4 v5)) := r12_nextBySize p hg v12_isAt g12_isAt ok241 v12_showsNow g12_showsNow ok226 (v12_nextBySize_6 p FU) (g12_nextBySize_6 p FU) (t12_nextBySize_6 p hg FU)
def CC247 (F : PM → Int32 → Int32 → Int32 → Int32 → Int32 → Int32) (G : PM → Int32 → Int32 → Int32 → Int32 → Int32 → Prop) : Cal := (247, [15, 0, 0, 0, 0, 0], 1, true, fun as p => (zI (F p (ai as 1) (ai as 2) (ai as 3) (ai as 4) (ai as 5)), p), fun as p => zsw (tc2 as [(112, 1), (0, 0), (0, 0), (0, 0), (0, 0), (0, 0)]) False (G p (ai as 1) (ai as 2) (ai as 3) (ai as 4) (ai as 5)))
set_option maxRecDepth 100000 in
theorem okr247 (F : PM → Int32 → Int32 → Int32 → Int32 → Int32 → Int32) (G : PM → Int32 → Int32 → Int32 → Int32 → Int32 → Prop) (h : ∀ (p : PM) (v1 : Int32) (v2 : Int32) (v3 : Int32) (v4 : Int32) (v5 : Int32), Gr 2 p → G p v1 v2 v3 v4 v5 → ZJ 2 247 0 [zR 12 1, zI v1, zI v2, zI v3, zI v4, zI v5, zJ, zJ, zJ, zJ] [] p (hoI p (F p v1 v2 v3 v4 v5))) : CalOK 2 (CC247 F G) := cal_ok (m := 10) (by unfold mL; rw [mX_247]) (fun as p hg H => h p (ai as 1) (ai as 2) (ai as 3) (ai as 4) (ai as 5) hg H)
theorem ok247 : CalOK 2 (CC247 v12_nextBySize g12_nextBySize) := okr247 v12_nextBySize g12_nextBySize (fun p v1 v2 v3 v4 v5 hg H => t12_nextBySize p hg v1 v2 v3 v4 v5 H)
noncomputable def bv12_sharesBySize_17 (F226 : PM → Int32 → Int32) (F244 : PM → Int32 → Int32 → Int32) (F247 : PM → Int32 → Int32 → Int32 → Int32 → Int32 → Int32) (kv17 : PM → Int32 → Int32 → Int32 → Int32 → Int32 → PM) (p : PM) (v1 : Int32) (v2 : Int32) (v3 : Int32) (v5 : Int32) (v6 : Int32) : PM :=
  if v6 < 0 then (
    p)
  else (
    let p1 : PM := pI p 13 29 (v6).toNatClampNeg (F244 p v5 (F226 p v6))
    let x2 : Int32 := (v5 - (p1.1 13 29 (v6).toNatClampNeg))
    let x3 : Int32 := (F247 p1 v1 v2 v3 (F226 p1 v6) (p1.1 13 23 (v6).toNatClampNeg))
    kv17 p1 v1 v2 v3 x2 x3)
noncomputable def v12_sharesBySize_17 (n : Nat) : PM → Int32 → Int32 → Int32 → Int32 → Int32 → PM := Nat.rec (motive := fun _ => PM → Int32 → Int32 → Int32 → Int32 → Int32 → PM) (fun p _ _ _ _ _ => p) (fun _ ih => bv12_sharesBySize_17 v12_showsNow v12_least v12_nextBySize ih) n
theorem ev12_sharesBySize_17 (n : Nat) (p : PM) (v1 : Int32) (v2 : Int32) (v3 : Int32) (v5 : Int32) (v6 : Int32) : v12_sharesBySize_17 (n + 1) p v1 v2 v3 v5 v6 = bv12_sharesBySize_17 v12_showsNow v12_least v12_nextBySize (v12_sharesBySize_17 n) p v1 v2 v3 v5 v6 := rfl
noncomputable def bg12_sharesBySize_17 (F226 : PM → Int32 → Int32) (G226 : PM → Int32 → Prop) (F244 : PM → Int32 → Int32 → Int32) (G244 : PM → Int32 → Int32 → Prop) (F247 : PM → Int32 → Int32 → Int32 → Int32 → Int32 → Int32) (G247 : PM → Int32 → Int32 → Int32 → Int32 → Int32 → Prop) (kg17 : PM → Int32 → Int32 → Int32 → Int32 → Int32 → Prop) (p : PM) (v1 : Int32) (v2 : Int32) (v3 : Int32) (v5 : Int32) (v6 : Int32) : Prop :=
  if v6 < 0 then (
    True)
  else (
    (G226 p v6) ∧ (
    (G244 p v5 (F226 p v6)) ∧ (
    (inb v6 44) ∧ (
    let p1 : PM := pI p 13 29 (v6).toNatClampNeg (F244 p v5 (F226 p v6))
    (inb v6 44) ∧ (
    let x2 : Int32 := (v5 - (p1.1 13 29 (v6).toNatClampNeg))
    (G226 p1 v6) ∧ (
    (inb v6 44) ∧ (
    (G247 p1 v1 v2 v3 (F226 p1 v6) (p1.1 13 23 (v6).toNatClampNeg)) ∧ (
    let x3 : Int32 := (F247 p1 v1 v2 v3 (F226 p1 v6) (p1.1 13 23 (v6).toNatClampNeg))
    kg17 p1 v1 v2 v3 x2 x3))))))))
noncomputable def g12_sharesBySize_17 (n : Nat) : PM → Int32 → Int32 → Int32 → Int32 → Int32 → Prop := Nat.rec (motive := fun _ => PM → Int32 → Int32 → Int32 → Int32 → Int32 → Prop) (fun _ _ _ _ _ _ => False) (fun _ ih => bg12_sharesBySize_17 v12_showsNow g12_showsNow v12_least g12_least v12_nextBySize g12_nextBySize ih) n
theorem eg12_sharesBySize_17 (n : Nat) (p : PM) (v1 : Int32) (v2 : Int32) (v3 : Int32) (v5 : Int32) (v6 : Int32) : g12_sharesBySize_17 (n + 1) p v1 v2 v3 v5 v6 = bg12_sharesBySize_17 v12_showsNow g12_showsNow v12_least g12_least v12_nextBySize g12_nextBySize (g12_sharesBySize_17 n) p v1 v2 v3 v5 v6 := rfl
noncomputable def bv12_sharesBySize (F247 : PM → Int32 → Int32 → Int32 → Int32 → Int32 → Int32) (kv17 : PM → Int32 → Int32 → Int32 → Int32 → Int32 → PM) (p : PM) (v1 : Int32) (v2 : Int32) (v3 : Int32) (v4 : Int32) : PM :=
  let x1 : Int32 := (F247 p v1 v2 v3 (cn 1000) (cn (-1)))
  kv17 p v1 v2 v3 v4 x1
noncomputable def v12_sharesBySize (p : PM) (v1 : Int32) (v2 : Int32) (v3 : Int32) (v4 : Int32) : PM := bv12_sharesBySize v12_nextBySize (v12_sharesBySize_17 FU) p v1 v2 v3 v4
noncomputable def bg12_sharesBySize (F247 : PM → Int32 → Int32 → Int32 → Int32 → Int32 → Int32) (G247 : PM → Int32 → Int32 → Int32 → Int32 → Int32 → Prop) (kg17 : PM → Int32 → Int32 → Int32 → Int32 → Int32 → Prop) (p : PM) (v1 : Int32) (v2 : Int32) (v3 : Int32) (v4 : Int32) : Prop :=
  (G247 p v1 v2 v3 (cn 1000) (cn (-1))) ∧ (
  let x1 : Int32 := (F247 p v1 v2 v3 (cn 1000) (cn (-1)))
  kg17 p v1 v2 v3 v4 x1)
noncomputable def g12_sharesBySize (p : PM) (v1 : Int32) (v2 : Int32) (v3 : Int32) (v4 : Int32) : Prop := bg12_sharesBySize v12_nextBySize g12_nextBySize (g12_sharesBySize_17 FU) p v1 v2 v3 v4
def R246 : List Row := [(0, .iload 4, 2, 0, (0, 0, 0, 0, 0, 0)), (2, .istore 5, 2, 0, (0, 0, 0, 0, 0, 0)), (4, .aload_n 0, 1, 0, (0, 0, 0, 0, 0, 0)), (5, .iload_n 1, 1, 0, (0, 0, 0, 0, 0, 0)), (6, .iload_n 2, 1, 0, (0, 0, 0, 0, 0, 0)), (7, .iload_n 3, 1, 0, (0, 0, 0, 0, 0, 0)), (8, .sipush 1000, 3, 0, (0, 0, 0, 0, 0, 1000)), (11, .iconst (-1), 1, 0, (0, 0, 0, 0, 0, -1)), (12, .invokevirtual 265, 3, 0, (0, 6, 0, 0, 1, 0)), (15, .istore 6, 2, 0, (0, 0, 0, 0, 0, 0)), (17, .iload 6, 2, 1, (0, 0, 0, 0, 0, 0)), (19, .ifCond .lt 59, 3, 0, (0, 0, 0, 0, 0, 0)), (22, .aload_n 0, 1, 0, (0, 0, 0, 0, 0, 0)), (23, .getfield 117, 3, 0, (12, 38, 16, 2, 29, 0)), (26, .iload 6, 2, 0, (0, 0, 0, 0, 0, 0)), (28, .aload_n 0, 1, 0, (0, 0, 0, 0, 0, 0)), (29, .iload 5, 2, 0, (0, 0, 0, 0, 0, 0)), (31, .aload_n 0, 1, 0, (0, 0, 0, 0, 0, 0)), (32, .iload 6, 2, 0, (0, 0, 0, 0, 0, 0)), (34, .invokevirtual 258, 3, 0, (1, 2, 0, 0, 1, 0)), (37, .invokevirtual 261, 3, 0, (2, 3, 0, 0, 1, 0)), (40, .iastore, 1, 0, (13, 44, 0, 0, 0, 0)), (41, .iload 5, 2, 0, (0, 0, 0, 0, 0, 0)), (43, .aload_n 0, 1, 0, (0, 0, 0, 0, 0, 0)), (44, .getfield 117, 3, 0, (12, 38, 16, 2, 29, 0)), (47, .iload 6, 2, 0, (0, 0, 0, 0, 0, 0)), (49, .iaload, 1, 0, (13, 44, 0, 0, 0, 0)), (50, .isub, 1, 0, (0, 0, 0, 0, 0, 0)), (51, .istore 5, 2, 0, (0, 0, 0, 0, 0, 0)), (53, .aload_n 0, 1, 0, (0, 0, 0, 0, 0, 0)), (54, .iload_n 1, 1, 0, (0, 0, 0, 0, 0, 0)), (55, .iload_n 2, 1, 0, (0, 0, 0, 0, 0, 0)), (56, .iload_n 3, 1, 0, (0, 0, 0, 0, 0, 0)), (57, .aload_n 0, 1, 0, (0, 0, 0, 0, 0, 0)), (58, .iload 6, 2, 0, (0, 0, 0, 0, 0, 0)), (60, .invokevirtual 258, 3, 0, (1, 2, 0, 0, 1, 0)), (63, .aload_n 0, 1, 0, (0, 0, 0, 0, 0, 0)), (64, .getfield 96, 3, 0, (12, 31, 16, 2, 23, 0)), (67, .iload 6, 2, 0, (0, 0, 0, 0, 0, 0)), (69, .iaload, 1, 0, (13, 44, 0, 0, 0, 0)), (70, .invokevirtual 265, 3, 0, (0, 6, 0, 0, 1, 0)), (73, .istore 6, 2, 0, (0, 0, 0, 0, 0, 0)), (75, .goto (-58), 3, 0, (0, 0, 0, 0, 0, 0)), (78, .return_, 1, 0, (0, 0, 0, 0, 0, 0))]
set_option maxRecDepth 100000 in
theorem rk246 : R246.all (rok 2 246 0 [(247, [15, 0, 0, 0, 0, 0]), (226, [15, 0]), (244, [15, 0, 0])]) = true := by decide +kernel
set_option maxRecDepth 100000 in
theorem tab246 {F247 : PM → Int32 → Int32 → Int32 → Int32 → Int32 → Int32} {G247 : PM → Int32 → Int32 → Int32 → Int32 → Int32 → Prop} {F226 : PM → Int32 → Int32} {G226 : PM → Int32 → Prop} {F244 : PM → Int32 → Int32 → Int32} {G244 : PM → Int32 → Int32 → Prop} : TabOK 2 246 0 [CC247 F247 G247, CC226 F226 G226, CC244 F244 G244] R246 := tab_ok (K := K246) rfl rfl (fun h => d246 h) rk246 (by decide +kernel)
set_option maxRecDepth 100000 in
theorem pc246 : cutpc [17] R246 = true := by decide +kernel
set_option maxRecDepth 100000 in
theorem r12_sharesBySize_17 (F247 : PM → Int32 → Int32 → Int32 → Int32 → Int32 → Int32) (G247 : PM → Int32 → Int32 → Int32 → Int32 → Int32 → Prop) (o247 : CalOK 2 (CC247 F247 G247)) (F226 : PM → Int32 → Int32) (G226 : PM → Int32 → Prop) (o226 : CalOK 2 (CC226 F226 G226)) (F244 : PM → Int32 → Int32 → Int32) (G244 : PM → Int32 → Int32 → Prop) (o244 : CalOK 2 (CC244 F244 G244)) (kv17 : PM → Int32 → Int32 → Int32 → Int32 → Int32 → PM) (kg17 : PM → Int32 → Int32 → Int32 → Int32 → Int32 → Prop) (hk17 : ∀ (p : PM) (v1 : Int32) (v2 : Int32) (v3 : Int32) (v5 : Int32) (v6 : Int32) (d4 : ZV), Gr 2 p → kg17 p v1 v2 v3 v5 v6 → ZJ 2 246 17 [zR 12 1, zI v1, zI v2, zI v3, d4, zI v5, zI v6] [] p (hwV (kv17 p v1 v2 v3 v5 v6))) : ∀ (p : PM) (v1 : Int32) (v2 : Int32) (v3 : Int32) (v5 : Int32) (v6 : Int32) (d4 : ZV), Gr 2 p → bg12_sharesBySize_17 F226 G226 F244 G244 F247 G247 kg17 p v1 v2 v3 v5 v6 → ZJ 2 246 17 [zR 12 1, zI v1, zI v2, zI v3, d4, zI v5, zI v6] [] p (hwV (bv12_sharesBySize_17 F226 F244 F247 kv17 p v1 v2 v3 v5 v6)) := by
  intro p v1 v2 v3 v5 v6 d4 hg H
  exact rwV (n := 3000) (q := 17) (la := [zR 12 1, zI v1, zI v2, zI v3, d4, zI v5, zI v6]) (sa := []) (ks := [fun la sa s => kv17 s (ai la 1) (ai la 2) (ai la 3) (ai la 5) (ai la 6)]) (gs := [fun la sa s => zsw (tc2 la [(112, 1), (0, 0), (0, 0), (0, 0), (2, 0), (0, 0), (0, 0)] && tc2 sa []) False (kg17 s (ai la 1) (ai la 2) (ai la 3) (ai la 5) (ai la 6))]) (fcons o247 (fcons o226 (fcons o244 (fnil)))) tab246 pc246 ⟨fun la sa s hg H => zcut H fun H => hk17 s (ai la 1) (ai la 2) (ai la 3) (ai la 5) (ai la 6) (zld la 4) hg H, trivial⟩ hg H
theorem t12_sharesBySize_17 : ∀ (n : Nat), ∀ (p : PM) (v1 : Int32) (v2 : Int32) (v3 : Int32) (v5 : Int32) (v6 : Int32) (d4 : ZV), Gr 2 p → g12_sharesBySize_17 n p v1 v2 v3 v5 v6 → ZJ 2 246 17 [zR 12 1, zI v1, zI v2, zI v3, d4, zI v5, zI v6] [] p (hwV (v12_sharesBySize_17 n p v1 v2 v3 v5 v6)) := by
  intro n
  induction n with
  | zero =>
    intro p v1 v2 v3 v5 v6 d4 hg H
    exact H.elim
  | succ n ih => exact r12_sharesBySize_17 v12_nextBySize g12_nextBySize ok247 v12_showsNow g12_showsNow ok226 v12_least g12_least ok244 (v12_sharesBySize_17 n) (g12_sharesBySize_17 n) ih
set_option maxRecDepth 100000 in
theorem r12_sharesBySize (F247 : PM → Int32 → Int32 → Int32 → Int32 → Int32 → Int32) (G247 : PM → Int32 → Int32 → Int32 → Int32 → Int32 → Prop) (o247 : CalOK 2 (CC247 F247 G247)) (F226 : PM → Int32 → Int32) (G226 : PM → Int32 → Prop) (o226 : CalOK 2 (CC226 F226 G226)) (F244 : PM → Int32 → Int32 → Int32) (G244 : PM → Int32 → Int32 → Prop) (o244 : CalOK 2 (CC244 F244 G244)) (kv17 : PM → Int32 → Int32 → Int32 → Int32 → Int32 → PM) (kg17 : PM → Int32 → Int32 → Int32 → Int32 → Int32 → Prop) (hk17 : ∀ (p : PM) (v1 : Int32) (v2 : Int32) (v3 : Int32) (v5 : Int32) (v6 : Int32) (d4 : ZV), Gr 2 p → kg17 p v1 v2 v3 v5 v6 → ZJ 2 246 17 [zR 12 1, zI v1, zI v2, zI v3, d4, zI v5, zI v6] [] p (hwV (kv17 p v1 v2 v3 v5 v6))) : ∀ (p : PM) (v1 : Int32) (v2 : Int32) (v3 : Int32) (v4 : Int32), Gr 2 p → bg12_sharesBySize F247 G247 kg17 p v1 v2 v3 v4 → ZJ 2 246 0 [zR 12 1, zI v1, zI v2, zI v3, zI v4, zJ, zJ] [] p (hwV (bv12_sharesBySize F247 kv17 p v1 v2 v3 v4)) := by
  intro p v1 v2 v3 v4  hg H
  exact rwV (n := 3000) (q := 0) (la := [zR 12 1, zI v1, zI v2, zI v3, zI v4, zJ, zJ]) (sa := []) (ks := [fun la sa s => kv17 s (ai la 1) (ai la 2) (ai la 3) (ai la 5) (ai la 6)]) (gs := [fun la sa s => zsw (tc2 la [(112, 1), (0, 0), (0, 0), (0, 0), (2, 0), (0, 0), (0, 0)] && tc2 sa []) False (kg17 s (ai la 1) (ai la 2) (ai la 3) (ai la 5) (ai la 6))]) (fcons o247 (fcons o226 (fcons o244 (fnil)))) tab246 pc246 ⟨fun la sa s hg H => zcut H fun H => hk17 s (ai la 1) (ai la 2) (ai la 3) (ai la 5) (ai la 6) (zld la 4) hg H, trivial⟩ hg H
theorem t12_sharesBySize : ∀ (p : PM) (v1 : Int32) (v2 : Int32) (v3 : Int32) (v4 : Int32), Gr 2 p → g12_sharesBySize p v1 v2 v3 v4 → ZJ 2 246 0 [zR 12 1, zI v1, zI v2, zI v3, zI v4, zJ, zJ] [] p (hwV (v12_sharesBySize p v1 v2 v3 v4)) := r12_sharesBySize v12_nextBySize g12_nextBySize ok247 v12_showsNow g12_showsNow ok226 v12_least g12_least ok244 (v12_sharesBySize_17 FU) (g12_sharesBySize_17 FU) (t12_sharesBySize_17 FU)
def CC246 (F : PM → Int32 → Int32 → Int32 → Int32 → PM) (G : PM → Int32 → Int32 → Int32 → Int32 → Prop) : Cal := (246, [15, 0, 0, 0, 0], 0, false, fun as p => (zJ, (F p (ai as 1) (ai as 2) (ai as 3) (ai as 4))), fun as p => zsw (tc2 as [(112, 1), (0, 0), (0, 0), (0, 0), (0, 0)]) False (G p (ai as 1) (ai as 2) (ai as 3) (ai as 4)))
set_option maxRecDepth 100000 in
theorem okr246 (F : PM → Int32 → Int32 → Int32 → Int32 → PM) (G : PM → Int32 → Int32 → Int32 → Int32 → Prop) (h : ∀ (p : PM) (v1 : Int32) (v2 : Int32) (v3 : Int32) (v4 : Int32), Gr 2 p → G p v1 v2 v3 v4 → ZJ 2 246 0 [zR 12 1, zI v1, zI v2, zI v3, zI v4, zJ, zJ] [] p (hwV (F p v1 v2 v3 v4))) : CalOK 2 (CC246 F G) := cal_ok (m := 7) (by unfold mL; rw [mX_246]) (fun as p hg H => h p (ai as 1) (ai as 2) (ai as 3) (ai as 4) hg H)
theorem ok246 : CalOK 2 (CC246 v12_sharesBySize g12_sharesBySize) := okr246 v12_sharesBySize g12_sharesBySize t12_sharesBySize
noncomputable def bv12_sharesOut_229 (F226 : PM → Int32 → Int32) (F242 : PM → Int32 → Int32 → Int32 → Int32 → Int32) (kv207 : PM → Int32 → Int32 → Int32 → Int32 → Int32 → Int32 → PM) (kv229 : PM → Int32 → Int32 → Int32 → Int32 → Int32 → Int32 → Int32 → PM) (p : PM) (v1 : Int32) (v2 : Int32) (v3 : Int32) (v6 : Int32) (v7 : Int32) (v8 : Int32) (v9 : Int32) : PM :=
  if v9 < 0 then (
    kv207 p v1 v2 v3 v6 v7 v8)
  else (
    if 0 < v6 then (
      if (p.1 13 29 (v9).toNatClampNeg) < (F226 p v9) then (
        let p5 : PM := pI p 13 29 (v9).toNatClampNeg ((p.1 13 29 (v9).toNatClampNeg) + (cn 1))
        let x6 : Int32 := (F242 p5 v1 v2 v3 (p5.1 13 23 (v9).toNatClampNeg))
        kv229 p5 v1 v2 v3 (v6 - (cn 1)) v7 v8 x6)
      else (
        let p3 : PM := pI p 13 29 (v9).toNatClampNeg ((p.1 13 29 (v9).toNatClampNeg) + (cn 0))
        let x4 : Int32 := (F242 p3 v1 v2 v3 (p3.1 13 23 (v9).toNatClampNeg))
        kv229 p3 v1 v2 v3 (v6 - (cn 0)) v7 v8 x4))
    else (
      let p1 : PM := pI p 13 29 (v9).toNatClampNeg ((p.1 13 29 (v9).toNatClampNeg) + (cn 0))
      let x2 : Int32 := (F242 p1 v1 v2 v3 (p1.1 13 23 (v9).toNatClampNeg))
      kv229 p1 v1 v2 v3 (v6 - (cn 0)) v7 v8 x2))
noncomputable def v12_sharesOut_229 (kv207 : PM → Int32 → Int32 → Int32 → Int32 → Int32 → Int32 → PM) (n : Nat) : PM → Int32 → Int32 → Int32 → Int32 → Int32 → Int32 → Int32 → PM := Nat.rec (motive := fun _ => PM → Int32 → Int32 → Int32 → Int32 → Int32 → Int32 → Int32 → PM) (fun p _ _ _ _ _ _ _ => p) (fun _ ih => bv12_sharesOut_229 v12_showsNow v12_behindTurn kv207 ih) n
theorem ev12_sharesOut_229 (kv207 : PM → Int32 → Int32 → Int32 → Int32 → Int32 → Int32 → PM) (n : Nat) (p : PM) (v1 : Int32) (v2 : Int32) (v3 : Int32) (v6 : Int32) (v7 : Int32) (v8 : Int32) (v9 : Int32) : v12_sharesOut_229 kv207 (n + 1) p v1 v2 v3 v6 v7 v8 v9 = bv12_sharesOut_229 v12_showsNow v12_behindTurn kv207 (v12_sharesOut_229 kv207 n) p v1 v2 v3 v6 v7 v8 v9 := rfl
noncomputable def bg12_sharesOut_229 (F226 : PM → Int32 → Int32) (G226 : PM → Int32 → Prop) (F242 : PM → Int32 → Int32 → Int32 → Int32 → Int32) (G242 : PM → Int32 → Int32 → Int32 → Int32 → Prop) (kg207 : PM → Int32 → Int32 → Int32 → Int32 → Int32 → Int32 → Prop) (kg229 : PM → Int32 → Int32 → Int32 → Int32 → Int32 → Int32 → Int32 → Prop) (p : PM) (v1 : Int32) (v2 : Int32) (v3 : Int32) (v6 : Int32) (v7 : Int32) (v8 : Int32) (v9 : Int32) : Prop :=
  if v9 < 0 then (
    kg207 p v1 v2 v3 v6 v7 v8)
  else (
    if 0 < v6 then (
      (inb v9 44) ∧ (
      (G226 p v9) ∧ (
      if (p.1 13 29 (v9).toNatClampNeg) < (F226 p v9) then (
        (inb v9 44) ∧ (
        (inb v9 44) ∧ (
        let p5 : PM := pI p 13 29 (v9).toNatClampNeg ((p.1 13 29 (v9).toNatClampNeg) + (cn 1))
        (inb v9 44) ∧ (
        (G242 p5 v1 v2 v3 (p5.1 13 23 (v9).toNatClampNeg)) ∧ (
        let x6 : Int32 := (F242 p5 v1 v2 v3 (p5.1 13 23 (v9).toNatClampNeg))
        kg229 p5 v1 v2 v3 (v6 - (cn 1)) v7 v8 x6)))))
      else (
        (inb v9 44) ∧ (
        (inb v9 44) ∧ (
        let p3 : PM := pI p 13 29 (v9).toNatClampNeg ((p.1 13 29 (v9).toNatClampNeg) + (cn 0))
        (inb v9 44) ∧ (
        (G242 p3 v1 v2 v3 (p3.1 13 23 (v9).toNatClampNeg)) ∧ (
        let x4 : Int32 := (F242 p3 v1 v2 v3 (p3.1 13 23 (v9).toNatClampNeg))
        kg229 p3 v1 v2 v3 (v6 - (cn 0)) v7 v8 x4))))))))
    else (
      (inb v9 44) ∧ (
      (inb v9 44) ∧ (
      let p1 : PM := pI p 13 29 (v9).toNatClampNeg ((p.1 13 29 (v9).toNatClampNeg) + (cn 0))
      (inb v9 44) ∧ (
      (G242 p1 v1 v2 v3 (p1.1 13 23 (v9).toNatClampNeg)) ∧ (
      let x2 : Int32 := (F242 p1 v1 v2 v3 (p1.1 13 23 (v9).toNatClampNeg))
      kg229 p1 v1 v2 v3 (v6 - (cn 0)) v7 v8 x2))))))
noncomputable def g12_sharesOut_229 (kg207 : PM → Int32 → Int32 → Int32 → Int32 → Int32 → Int32 → Prop) (n : Nat) : PM → Int32 → Int32 → Int32 → Int32 → Int32 → Int32 → Int32 → Prop := Nat.rec (motive := fun _ => PM → Int32 → Int32 → Int32 → Int32 → Int32 → Int32 → Int32 → Prop) (fun _ _ _ _ _ _ _ _ => False) (fun _ ih => bg12_sharesOut_229 v12_showsNow g12_showsNow v12_behindTurn g12_behindTurn kg207 ih) n
theorem eg12_sharesOut_229 (kg207 : PM → Int32 → Int32 → Int32 → Int32 → Int32 → Int32 → Prop) (n : Nat) (p : PM) (v1 : Int32) (v2 : Int32) (v3 : Int32) (v6 : Int32) (v7 : Int32) (v8 : Int32) (v9 : Int32) : g12_sharesOut_229 kg207 (n + 1) p v1 v2 v3 v6 v7 v8 v9 = bg12_sharesOut_229 v12_showsNow g12_showsNow v12_behindTurn g12_behindTurn kg207 (g12_sharesOut_229 kg207 n) p v1 v2 v3 v6 v7 v8 v9 := rfl
noncomputable def bv12_sharesOut_207 (F242 : PM → Int32 → Int32 → Int32 → Int32 → Int32) (kv229 : PM → Int32 → Int32 → Int32 → Int32 → Int32 → Int32 → Int32 → PM) (p : PM) (v1 : Int32) (v2 : Int32) (v3 : Int32) (v6 : Int32) (v7 : Int32) (v8 : Int32) : PM :=
  if 0 < v6 then (
    if v7 < v8 then (
      p)
    else (
      let x1 : Int32 := (F242 p v1 v2 v3 (cn (-1)))
      kv229 p v1 v2 v3 v6 v7 v8 x1))
  else (
    p)
noncomputable def v12_sharesOut_207 (n : Nat) : PM → Int32 → Int32 → Int32 → Int32 → Int32 → Int32 → PM := Nat.rec (motive := fun _ => PM → Int32 → Int32 → Int32 → Int32 → Int32 → Int32 → PM) (fun p _ _ _ _ _ _ => p) (fun _ ih => bv12_sharesOut_207 v12_behindTurn (v12_sharesOut_229 ih FU)) n
theorem ev12_sharesOut_207 (n : Nat) (p : PM) (v1 : Int32) (v2 : Int32) (v3 : Int32) (v6 : Int32) (v7 : Int32) (v8 : Int32) : v12_sharesOut_207 (n + 1) p v1 v2 v3 v6 v7 v8 = bv12_sharesOut_207 v12_behindTurn (v12_sharesOut_229 (v12_sharesOut_207 n) FU) p v1 v2 v3 v6 v7 v8 := rfl
noncomputable def bg12_sharesOut_207 (F242 : PM → Int32 → Int32 → Int32 → Int32 → Int32) (G242 : PM → Int32 → Int32 → Int32 → Int32 → Prop) (kg229 : PM → Int32 → Int32 → Int32 → Int32 → Int32 → Int32 → Int32 → Prop) (p : PM) (v1 : Int32) (v2 : Int32) (v3 : Int32) (v6 : Int32) (v7 : Int32) (v8 : Int32) : Prop :=
  if 0 < v6 then (
    if v7 < v8 then (
      True)
    else (
      (G242 p v1 v2 v3 (cn (-1))) ∧ (
      let x1 : Int32 := (F242 p v1 v2 v3 (cn (-1)))
      kg229 p v1 v2 v3 v6 v7 v8 x1)))
  else (
    True)
noncomputable def g12_sharesOut_207 (n : Nat) : PM → Int32 → Int32 → Int32 → Int32 → Int32 → Int32 → Prop := Nat.rec (motive := fun _ => PM → Int32 → Int32 → Int32 → Int32 → Int32 → Int32 → Prop) (fun _ _ _ _ _ _ _ => False) (fun _ ih => bg12_sharesOut_207 v12_behindTurn g12_behindTurn (g12_sharesOut_229 ih FU)) n
theorem eg12_sharesOut_207 (n : Nat) (p : PM) (v1 : Int32) (v2 : Int32) (v3 : Int32) (v6 : Int32) (v7 : Int32) (v8 : Int32) : g12_sharesOut_207 (n + 1) p v1 v2 v3 v6 v7 v8 = bg12_sharesOut_207 v12_behindTurn g12_behindTurn (g12_sharesOut_229 (g12_sharesOut_207 n) FU) p v1 v2 v3 v6 v7 v8 := rfl
noncomputable def bv12_sharesOut_116 (F226 : PM → Int32 → Int32) (F241 : PM → Int32 → Int32 → Int32 → Int32 → Int32) (kv116 : PM → Int32 → Int32 → Int32 → Int32 → Int32 → Int32 → Int32 → PM) (kv207 : PM → Int32 → Int32 → Int32 → Int32 → Int32 → Int32 → PM) (p : PM) (v1 : Int32) (v2 : Int32) (v3 : Int32) (v6 : Int32) (v7 : Int32) (v8 : Int32) (v9 : Int32) : PM :=
  if v9 < (cn 44) then (
    if (F241 p v9 v1 v2 v3) = 0 then (
      kv116 p v1 v2 v3 v6 v7 v8 (v9 + (cn 1)))
    else (
      let x1 : Int32 := ((F226 p v9) - (p.1 13 29 (v9).toNatClampNeg))
      if v7 < v8 then (
        let p4 : PM := pI p 13 29 (v9).toNatClampNeg ((p.1 13 29 (v9).toNatClampNeg) + x1)
        kv116 p4 v1 v2 v3 (v6 - x1) v7 v8 (v9 + (cn 1)))
      else (
        if v7 = 0 then (
          let p3 : PM := pI p 13 29 (v9).toNatClampNeg ((p.1 13 29 (v9).toNatClampNeg) + (cn 0))
          kv116 p3 v1 v2 v3 (v6 - (cn 0)) v7 v8 (v9 + (cn 1)))
        else (
          let p2 : PM := pI p 13 29 (v9).toNatClampNeg ((p.1 13 29 (v9).toNatClampNeg) + ((v8 * x1) / v7))
          kv116 p2 v1 v2 v3 (v6 - ((v8 * x1) / v7)) v7 v8 (v9 + (cn 1))))))
  else (
    kv207 p v1 v2 v3 v6 v7 v8)
noncomputable def v12_sharesOut_116 (n : Nat) : PM → Int32 → Int32 → Int32 → Int32 → Int32 → Int32 → Int32 → PM := Nat.rec (motive := fun _ => PM → Int32 → Int32 → Int32 → Int32 → Int32 → Int32 → Int32 → PM) (fun p _ _ _ _ _ _ _ => p) (fun _ ih => bv12_sharesOut_116 v12_showsNow v12_isAt ih (v12_sharesOut_207 FU)) n
theorem ev12_sharesOut_116 (n : Nat) (p : PM) (v1 : Int32) (v2 : Int32) (v3 : Int32) (v6 : Int32) (v7 : Int32) (v8 : Int32) (v9 : Int32) : v12_sharesOut_116 (n + 1) p v1 v2 v3 v6 v7 v8 v9 = bv12_sharesOut_116 v12_showsNow v12_isAt (v12_sharesOut_116 n) (v12_sharesOut_207 FU) p v1 v2 v3 v6 v7 v8 v9 := rfl
noncomputable def bg12_sharesOut_116 (F226 : PM → Int32 → Int32) (G226 : PM → Int32 → Prop) (F241 : PM → Int32 → Int32 → Int32 → Int32 → Int32) (G241 : PM → Int32 → Int32 → Int32 → Int32 → Prop) (kg116 : PM → Int32 → Int32 → Int32 → Int32 → Int32 → Int32 → Int32 → Prop) (kg207 : PM → Int32 → Int32 → Int32 → Int32 → Int32 → Int32 → Prop) (p : PM) (v1 : Int32) (v2 : Int32) (v3 : Int32) (v6 : Int32) (v7 : Int32) (v8 : Int32) (v9 : Int32) : Prop :=
  if v9 < (cn 44) then (
    (G241 p v9 v1 v2 v3) ∧ (
    if (F241 p v9 v1 v2 v3) = 0 then (
      kg116 p v1 v2 v3 v6 v7 v8 (v9 + (cn 1)))
    else (
      (G226 p v9) ∧ (
      (inb v9 44) ∧ (
      let x1 : Int32 := ((F226 p v9) - (p.1 13 29 (v9).toNatClampNeg))
      if v7 < v8 then (
        (inb v9 44) ∧ (
        (inb v9 44) ∧ (
        let p4 : PM := pI p 13 29 (v9).toNatClampNeg ((p.1 13 29 (v9).toNatClampNeg) + x1)
        kg116 p4 v1 v2 v3 (v6 - x1) v7 v8 (v9 + (cn 1)))))
      else (
        if v7 = 0 then (
          (inb v9 44) ∧ (
          (inb v9 44) ∧ (
          let p3 : PM := pI p 13 29 (v9).toNatClampNeg ((p.1 13 29 (v9).toNatClampNeg) + (cn 0))
          kg116 p3 v1 v2 v3 (v6 - (cn 0)) v7 v8 (v9 + (cn 1)))))
        else (
          (¬ v7 = 0) ∧ (
          (inb v9 44) ∧ (
          (inb v9 44) ∧ (
          let p2 : PM := pI p 13 29 (v9).toNatClampNeg ((p.1 13 29 (v9).toNatClampNeg) + ((v8 * x1) / v7))
          kg116 p2 v1 v2 v3 (v6 - ((v8 * x1) / v7)) v7 v8 (v9 + (cn 1))))))))))))
  else (
    kg207 p v1 v2 v3 v6 v7 v8)
noncomputable def g12_sharesOut_116 (n : Nat) : PM → Int32 → Int32 → Int32 → Int32 → Int32 → Int32 → Int32 → Prop := Nat.rec (motive := fun _ => PM → Int32 → Int32 → Int32 → Int32 → Int32 → Int32 → Int32 → Prop) (fun _ _ _ _ _ _ _ _ => False) (fun _ ih => bg12_sharesOut_116 v12_showsNow g12_showsNow v12_isAt g12_isAt ih (g12_sharesOut_207 FU)) n
theorem eg12_sharesOut_116 (n : Nat) (p : PM) (v1 : Int32) (v2 : Int32) (v3 : Int32) (v6 : Int32) (v7 : Int32) (v8 : Int32) (v9 : Int32) : g12_sharesOut_116 (n + 1) p v1 v2 v3 v6 v7 v8 v9 = bg12_sharesOut_116 v12_showsNow g12_showsNow v12_isAt g12_isAt (g12_sharesOut_116 n) (g12_sharesOut_207 FU) p v1 v2 v3 v6 v7 v8 v9 := rfl
noncomputable def bv12_sharesOut_61 (F226 : PM → Int32 → Int32) (F241 : PM → Int32 → Int32 → Int32 → Int32 → Int32) (kv61 : PM → Int32 → Int32 → Int32 → Int32 → Int32 → Int32 → PM) (kv116 : PM → Int32 → Int32 → Int32 → Int32 → Int32 → Int32 → Int32 → PM) (p : PM) (v1 : Int32) (v2 : Int32) (v3 : Int32) (v6 : Int32) (v7 : Int32) (v8 : Int32) : PM :=
  if v8 < (cn 44) then (
    if (F241 p v8 v1 v2 v3) = 0 then (
      kv61 p v1 v2 v3 v6 (v7 + (cn 0)) (v8 + (cn 1)))
    else (
      let x1 : Int32 := (v7 + ((F226 p v8) - (p.1 13 29 (v8).toNatClampNeg)))
      kv61 p v1 v2 v3 v6 x1 (v8 + (cn 1))))
  else (
    kv116 p v1 v2 v3 v6 v7 v6 (cn 0))
noncomputable def v12_sharesOut_61 (n : Nat) : PM → Int32 → Int32 → Int32 → Int32 → Int32 → Int32 → PM := Nat.rec (motive := fun _ => PM → Int32 → Int32 → Int32 → Int32 → Int32 → Int32 → PM) (fun p _ _ _ _ _ _ => p) (fun _ ih => bv12_sharesOut_61 v12_showsNow v12_isAt ih (v12_sharesOut_116 FU)) n
theorem ev12_sharesOut_61 (n : Nat) (p : PM) (v1 : Int32) (v2 : Int32) (v3 : Int32) (v6 : Int32) (v7 : Int32) (v8 : Int32) : v12_sharesOut_61 (n + 1) p v1 v2 v3 v6 v7 v8 = bv12_sharesOut_61 v12_showsNow v12_isAt (v12_sharesOut_61 n) (v12_sharesOut_116 FU) p v1 v2 v3 v6 v7 v8 := rfl
noncomputable def bg12_sharesOut_61 (F226 : PM → Int32 → Int32) (G226 : PM → Int32 → Prop) (F241 : PM → Int32 → Int32 → Int32 → Int32 → Int32) (G241 : PM → Int32 → Int32 → Int32 → Int32 → Prop) (kg61 : PM → Int32 → Int32 → Int32 → Int32 → Int32 → Int32 → Prop) (kg116 : PM → Int32 → Int32 → Int32 → Int32 → Int32 → Int32 → Int32 → Prop) (p : PM) (v1 : Int32) (v2 : Int32) (v3 : Int32) (v6 : Int32) (v7 : Int32) (v8 : Int32) : Prop :=
  if v8 < (cn 44) then (
    (G241 p v8 v1 v2 v3) ∧ (
    if (F241 p v8 v1 v2 v3) = 0 then (
      kg61 p v1 v2 v3 v6 (v7 + (cn 0)) (v8 + (cn 1)))
    else (
      (G226 p v8) ∧ (
      (inb v8 44) ∧ (
      let x1 : Int32 := (v7 + ((F226 p v8) - (p.1 13 29 (v8).toNatClampNeg)))
      kg61 p v1 v2 v3 v6 x1 (v8 + (cn 1)))))))
  else (
    kg116 p v1 v2 v3 v6 v7 v6 (cn 0))
noncomputable def g12_sharesOut_61 (n : Nat) : PM → Int32 → Int32 → Int32 → Int32 → Int32 → Int32 → Prop := Nat.rec (motive := fun _ => PM → Int32 → Int32 → Int32 → Int32 → Int32 → Int32 → Prop) (fun _ _ _ _ _ _ _ => False) (fun _ ih => bg12_sharesOut_61 v12_showsNow g12_showsNow v12_isAt g12_isAt ih (g12_sharesOut_116 FU)) n
theorem eg12_sharesOut_61 (n : Nat) (p : PM) (v1 : Int32) (v2 : Int32) (v3 : Int32) (v6 : Int32) (v7 : Int32) (v8 : Int32) : g12_sharesOut_61 (n + 1) p v1 v2 v3 v6 v7 v8 = bg12_sharesOut_61 v12_showsNow g12_showsNow v12_isAt g12_isAt (g12_sharesOut_61 n) (g12_sharesOut_116 FU) p v1 v2 v3 v6 v7 v8 := rfl
noncomputable def bv12_sharesOut (F226 : PM → Int32 → Int32) (F242 : PM → Int32 → Int32 → Int32 → Int32 → Int32) (F244 : PM → Int32 → Int32 → Int32) (kv61 : PM → Int32 → Int32 → Int32 → Int32 → Int32 → Int32 → PM) (p : PM) (v1 : Int32) (v2 : Int32) (v3 : Int32) (v4 : Int32) : PM :=
  let x1 : Int32 := (F242 p v1 v2 v3 (cn (-1)))
  let p2 : PM := pI p 13 29 (x1).toNatClampNeg (F244 p (F244 p (p.1 13 7 (v1).toNatClampNeg) (F226 p x1)) v4)
  let x3 : Int32 := (v4 - (p2.1 13 29 (x1).toNatClampNeg))
  kv61 p2 v1 v2 v3 x3 (cn 0) (cn 0)
noncomputable def v12_sharesOut (p : PM) (v1 : Int32) (v2 : Int32) (v3 : Int32) (v4 : Int32) : PM := bv12_sharesOut v12_showsNow v12_behindTurn v12_least (v12_sharesOut_61 FU) p v1 v2 v3 v4
noncomputable def bg12_sharesOut (F226 : PM → Int32 → Int32) (G226 : PM → Int32 → Prop) (F242 : PM → Int32 → Int32 → Int32 → Int32 → Int32) (G242 : PM → Int32 → Int32 → Int32 → Int32 → Prop) (F244 : PM → Int32 → Int32 → Int32) (G244 : PM → Int32 → Int32 → Prop) (kg61 : PM → Int32 → Int32 → Int32 → Int32 → Int32 → Int32 → Prop) (p : PM) (v1 : Int32) (v2 : Int32) (v3 : Int32) (v4 : Int32) : Prop :=
  (G242 p v1 v2 v3 (cn (-1))) ∧ (
  let x1 : Int32 := (F242 p v1 v2 v3 (cn (-1)))
  (inb v1 6) ∧ (
  (G226 p x1) ∧ (
  (G244 p (p.1 13 7 (v1).toNatClampNeg) (F226 p x1)) ∧ (
  (G244 p (F244 p (p.1 13 7 (v1).toNatClampNeg) (F226 p x1)) v4) ∧ (
  (inb x1 44) ∧ (
  let p2 : PM := pI p 13 29 (x1).toNatClampNeg (F244 p (F244 p (p.1 13 7 (v1).toNatClampNeg) (F226 p x1)) v4)
  (inb x1 44) ∧ (
  let x3 : Int32 := (v4 - (p2.1 13 29 (x1).toNatClampNeg))
  kg61 p2 v1 v2 v3 x3 (cn 0) (cn 0))))))))
noncomputable def g12_sharesOut (p : PM) (v1 : Int32) (v2 : Int32) (v3 : Int32) (v4 : Int32) : Prop := bg12_sharesOut v12_showsNow g12_showsNow v12_behindTurn g12_behindTurn v12_least g12_least (g12_sharesOut_61 FU) p v1 v2 v3 v4
def R248 : List Row := [(0, .aload_n 0, 1, 0, (0, 0, 0, 0, 0, 0)), (1, .iload_n 1, 1, 0, (0, 0, 0, 0, 0, 0)), (2, .iload_n 2, 1, 0, (0, 0, 0, 0, 0, 0)), (3, .iload_n 3, 1, 0, (0, 0, 0, 0, 0, 0)), (4, .iconst (-1), 1, 0, (0, 0, 0, 0, 0, -1)), (5, .invokevirtual 254, 3, 0, (0, 5, 0, 0, 1, 0)), (8, .istore 5, 2, 0, (0, 0, 0, 0, 0, 0)), (10, .iload 4, 2, 0, (0, 0, 0, 0, 0, 0)), (12, .istore 6, 2, 0, (0, 0, 0, 0, 0, 0)), (14, .aload_n 0, 1, 0, (0, 0, 0, 0, 0, 0)), (15, .getfield 117, 3, 0, (12, 38, 16, 2, 29, 0)), (18, .iload 5, 2, 0, (0, 0, 0, 0, 0, 0)), (20, .aload_n 0, 1, 0, (0, 0, 0, 0, 0, 0)), (21, .aload_n 0, 1, 0, (0, 0, 0, 0, 0, 0)), (22, .aload_n 0, 1, 0, (0, 0, 0, 0, 0, 0)), (23, .getfield 36, 3, 0, (12, 9, 16, 2, 7, 0)), (26, .iload_n 1, 1, 0, (0, 0, 0, 0, 0, 0)), (27, .iaload, 1, 0, (13, 6, 0, 0, 0, 0)), (28, .aload_n 0, 1, 0, (0, 0, 0, 0, 0, 0)), (29, .iload 5, 2, 0, (0, 0, 0, 0, 0, 0)), (31, .invokevirtual 258, 3, 0, (1, 2, 0, 0, 1, 0)), (34, .invokevirtual 261, 3, 0, (2, 3, 0, 0, 1, 0)), (37, .iload 6, 2, 0, (0, 0, 0, 0, 0, 0)), (39, .invokevirtual 261, 3, 0, (2, 3, 0, 0, 1, 0)), (42, .iastore, 1, 0, (13, 44, 0, 0, 0, 0)), (43, .iload 6, 2, 0, (0, 0, 0, 0, 0, 0)), (45, .aload_n 0, 1, 0, (0, 0, 0, 0, 0, 0)), (46, .getfield 117, 3, 0, (12, 38, 16, 2, 29, 0)), (49, .iload 5, 2, 0, (0, 0, 0, 0, 0, 0)), (51, .iaload, 1, 0, (13, 44, 0, 0, 0, 0)), (52, .isub, 1, 0, (0, 0, 0, 0, 0, 0)), (53, .istore 6, 2, 0, (0, 0, 0, 0, 0, 0)), (55, .iconst 0, 1, 0, (0, 0, 0, 0, 0, 0)), (56, .istore 7, 2, 0, (0, 0, 0, 0, 0, 0)), (58, .iconst 0, 1, 0, (0, 0, 0, 0, 0, 0)), (59, .istore 8, 2, 0, (0, 0, 0, 0, 0, 0)), (61, .iload 8, 2, 1, (0, 0, 0, 0, 0, 0)), (63, .bipush 44, 2, 0, (0, 0, 0, 0, 0, 44)), (65, .if_icmp .ge 44, 3, 0, (0, 0, 0, 0, 0, 0)), (68, .iload 7, 2, 0, (0, 0, 0, 0, 0, 0)), (70, .aload_n 0, 1, 0, (0, 0, 0, 0, 0, 0)), (71, .iload 8, 2, 0, (0, 0, 0, 0, 0, 0)), (73, .iload_n 1, 1, 0, (0, 0, 0, 0, 0, 0)), (74, .iload_n 2, 1, 0, (0, 0, 0, 0, 0, 0)), (75, .iload_n 3, 1, 0, (0, 0, 0, 0, 0, 0)), (76, .invokevirtual 251, 3, 0, (3, 5, 0, 0, 1, 0)), (79, .ifCond .eq 20, 3, 0, (0, 0, 0, 0, 0, 0)), (82, .aload_n 0, 1, 0, (0, 0, 0, 0, 0, 0)), (83, .iload 8, 2, 0, (0, 0, 0, 0, 0, 0)), (85, .invokevirtual 258, 3, 0, (1, 2, 0, 0, 1, 0)), (88, .aload_n 0, 1, 0, (0, 0, 0, 0, 0, 0)), (89, .getfield 117, 3, 0, (12, 38, 16, 2, 29, 0)), (92, .iload 8, 2, 0, (0, 0, 0, 0, 0, 0)), (94, .iaload, 1, 0, (13, 44, 0, 0, 0, 0)), (95, .isub, 1, 0, (0, 0, 0, 0, 0, 0)), (96, .goto 4, 3, 0, (0, 0, 0, 0, 0, 0)), (99, .iconst 0, 1, 0, (0, 0, 0, 0, 0, 0)), (100, .iadd, 1, 0, (0, 0, 0, 0, 0, 0)), (101, .istore 7, 2, 0, (0, 0, 0, 0, 0, 0)), (103, .iinc 8 1, 3, 0, (0, 0, 0, 0, 0, 1)), (106, .goto (-45), 3, 0, (0, 0, 0, 0, 0, 0)), (109, .iload 6, 2, 0, (0, 0, 0, 0, 0, 0)), (111, .istore 8, 2, 0, (0, 0, 0, 0, 0, 0)), (113, .iconst 0, 1, 0, (0, 0, 0, 0, 0, 0)), (114, .istore 9, 2, 0, (0, 0, 0, 0, 0, 0)), (116, .iload 9, 2, 2, (0, 0, 0, 0, 0, 0)), (118, .bipush 44, 2, 0, (0, 0, 0, 0, 0, 44)), (120, .if_icmp .ge 87, 3, 0, (0, 0, 0, 0, 0, 0)), (123, .aload_n 0, 1, 0, (0, 0, 0, 0, 0, 0)), (124, .iload 9, 2, 0, (0, 0, 0, 0, 0, 0)), (126, .iload_n 1, 1, 0, (0, 0, 0, 0, 0, 0)), (127, .iload_n 2, 1, 0, (0, 0, 0, 0, 0, 0)), (128, .iload_n 3, 1, 0, (0, 0, 0, 0, 0, 0)), (129, .invokevirtual 251, 3, 0, (3, 5, 0, 0, 1, 0)), (132, .ifCond .eq 69, 3, 0, (0, 0, 0, 0, 0, 0)), (135, .aload_n 0, 1, 0, (0, 0, 0, 0, 0, 0)), (136, .iload 9, 2, 0, (0, 0, 0, 0, 0, 0)), (138, .invokevirtual 258, 3, 0, (1, 2, 0, 0, 1, 0)), (141, .aload_n 0, 1, 0, (0, 0, 0, 0, 0, 0)), (142, .getfield 117, 3, 0, (12, 38, 16, 2, 29, 0)), (145, .iload 9, 2, 0, (0, 0, 0, 0, 0, 0)), (147, .iaload, 1, 0, (13, 44, 0, 0, 0, 0)), (148, .isub, 1, 0, (0, 0, 0, 0, 0, 0)), (149, .istore 10, 2, 0, (0, 0, 0, 0, 0, 0)), (151, .iload 8, 2, 0, (0, 0, 0, 0, 0, 0)), (153, .iload 7, 2, 0, (0, 0, 0, 0, 0, 0)), (155, .if_icmp .le 8, 3, 0, (0, 0, 0, 0, 0, 0)), (158, .iload 10, 2, 0, (0, 0, 0, 0, 0, 0)), (160, .goto 20, 3, 0, (0, 0, 0, 0, 0, 0)), (163, .iload 7, 2, 0, (0, 0, 0, 0, 0, 0)), (165, .ifCond .ne 7, 3, 0, (0, 0, 0, 0, 0, 0)), (168, .iconst 0, 1, 0, (0, 0, 0, 0, 0, 0)), (169, .goto 11, 3, 0, (0, 0, 0, 0, 0, 0)), (172, .iload 8, 2, 0, (0, 0, 0, 0, 0, 0)), (174, .iload 10, 2, 0, (0, 0, 0, 0, 0, 0)), (176, .imul, 1, 0, (0, 0, 0, 0, 0, 0)), (177, .iload 7, 2, 0, (0, 0, 0, 0, 0, 0)), (179, .idiv, 1, 0, (0, 0, 0, 0, 0, 0)), (180, .istore 11, 2, 0, (0, 0, 0, 0, 0, 0)), (182, .aload_n 0, 1, 0, (0, 0, 0, 0, 0, 0)), (183, .getfield 117, 3, 0, (12, 38, 16, 2, 29, 0)), (186, .iload 9, 2, 0, (0, 0, 0, 0, 0, 0)), (188, .dup2, 1, 0, (0, 0, 0, 0, 0, 0)), (189, .iaload, 1, 0, (13, 44, 0, 0, 0, 0)), (190, .iload 11, 2, 0, (0, 0, 0, 0, 0, 0)), (192, .iadd, 1, 0, (0, 0, 0, 0, 0, 0)), (193, .iastore, 1, 0, (13, 44, 0, 0, 0, 0)), (194, .iload 6, 2, 0, (0, 0, 0, 0, 0, 0)), (196, .iload 11, 2, 0, (0, 0, 0, 0, 0, 0)), (198, .isub, 1, 0, (0, 0, 0, 0, 0, 0)), (199, .istore 6, 2, 0, (0, 0, 0, 0, 0, 0)), (201, .iinc 9 1, 3, 0, (0, 0, 0, 0, 0, 1)), (204, .goto (-88), 3, 0, (0, 0, 0, 0, 0, 0)), (207, .iload 6, 2, 3, (0, 0, 0, 0, 0, 0)), (209, .ifCond .le 94, 3, 0, (0, 0, 0, 0, 0, 0)), (212, .iload 8, 2, 0, (0, 0, 0, 0, 0, 0)), (214, .iload 7, 2, 0, (0, 0, 0, 0, 0, 0)), (216, .if_icmp .gt 87, 3, 0, (0, 0, 0, 0, 0, 0)), (219, .aload_n 0, 1, 0, (0, 0, 0, 0, 0, 0)), (220, .iload_n 1, 1, 0, (0, 0, 0, 0, 0, 0)), (221, .iload_n 2, 1, 0, (0, 0, 0, 0, 0, 0)), (222, .iload_n 3, 1, 0, (0, 0, 0, 0, 0, 0)), (223, .iconst (-1), 1, 0, (0, 0, 0, 0, 0, -1)), (224, .invokevirtual 254, 3, 0, (0, 5, 0, 0, 1, 0)), (227, .istore 9, 2, 0, (0, 0, 0, 0, 0, 0)), (229, .iload 9, 2, 4, (0, 0, 0, 0, 0, 0)), (231, .ifCond .lt 69, 3, 0, (0, 0, 0, 0, 0, 0)), (234, .iload 6, 2, 0, (0, 0, 0, 0, 0, 0)), (236, .ifCond .le 23, 3, 0, (0, 0, 0, 0, 0, 0)), (239, .aload_n 0, 1, 0, (0, 0, 0, 0, 0, 0)), (240, .getfield 117, 3, 0, (12, 38, 16, 2, 29, 0)), (243, .iload 9, 2, 0, (0, 0, 0, 0, 0, 0)), (245, .iaload, 1, 0, (13, 44, 0, 0, 0, 0)), (246, .aload_n 0, 1, 0, (0, 0, 0, 0, 0, 0)), (247, .iload 9, 2, 0, (0, 0, 0, 0, 0, 0)), (249, .invokevirtual 258, 3, 0, (1, 2, 0, 0, 1, 0)), (252, .if_icmp .ge 7, 3, 0, (0, 0, 0, 0, 0, 0)), (255, .iconst 1, 1, 0, (0, 0, 0, 0, 0, 1)), (256, .goto 4, 3, 0, (0, 0, 0, 0, 0, 0)), (259, .iconst 0, 1, 0, (0, 0, 0, 0, 0, 0)), (260, .istore 10, 2, 0, (0, 0, 0, 0, 0, 0)), (262, .aload_n 0, 1, 0, (0, 0, 0, 0, 0, 0)), (263, .getfield 117, 3, 0, (12, 38, 16, 2, 29, 0)), (266, .iload 9, 2, 0, (0, 0, 0, 0, 0, 0)), (268, .dup2, 1, 0, (0, 0, 0, 0, 0, 0)), (269, .iaload, 1, 0, (13, 44, 0, 0, 0, 0)), (270, .iload 10, 2, 0, (0, 0, 0, 0, 0, 0)), (272, .iadd, 1, 0, (0, 0, 0, 0, 0, 0)), (273, .iastore, 1, 0, (13, 44, 0, 0, 0, 0)), (274, .iload 6, 2, 0, (0, 0, 0, 0, 0, 0)), (276, .iload 10, 2, 0, (0, 0, 0, 0, 0, 0)), (278, .isub, 1, 0, (0, 0, 0, 0, 0, 0)), (279, .istore 6, 2, 0, (0, 0, 0, 0, 0, 0)), (281, .aload_n 0, 1, 0, (0, 0, 0, 0, 0, 0)), (282, .iload_n 1, 1, 0, (0, 0, 0, 0, 0, 0)), (283, .iload_n 2, 1, 0, (0, 0, 0, 0, 0, 0)), (284, .iload_n 3, 1, 0, (0, 0, 0, 0, 0, 0)), (285, .aload_n 0, 1, 0, (0, 0, 0, 0, 0, 0)), (286, .getfield 96, 3, 0, (12, 31, 16, 2, 23, 0)), (289, .iload 9, 2, 0, (0, 0, 0, 0, 0, 0)), (291, .iaload, 1, 0, (13, 44, 0, 0, 0, 0)), (292, .invokevirtual 254, 3, 0, (0, 5, 0, 0, 1, 0)), (295, .istore 9, 2, 0, (0, 0, 0, 0, 0, 0)), (297, .goto (-68), 3, 0, (0, 0, 0, 0, 0, 0)), (300, .goto (-93), 3, 0, (0, 0, 0, 0, 0, 0)), (303, .return_, 1, 0, (0, 0, 0, 0, 0, 0))]
set_option maxRecDepth 100000 in
theorem rk248 : R248.all (rok 2 248 0 [(242, [15, 0, 0, 0, 0]), (226, [15, 0]), (244, [15, 0, 0]), (241, [15, 0, 0, 0, 0])]) = true := by decide +kernel
set_option maxRecDepth 100000 in
theorem tab248 {F242 : PM → Int32 → Int32 → Int32 → Int32 → Int32} {G242 : PM → Int32 → Int32 → Int32 → Int32 → Prop} {F226 : PM → Int32 → Int32} {G226 : PM → Int32 → Prop} {F244 : PM → Int32 → Int32 → Int32} {G244 : PM → Int32 → Int32 → Prop} {F241 : PM → Int32 → Int32 → Int32 → Int32 → Int32} {G241 : PM → Int32 → Int32 → Int32 → Int32 → Prop} : TabOK 2 248 0 [CC242 F242 G242, CC226 F226 G226, CC244 F244 G244, CC241 F241 G241] R248 := tab_ok (K := K248) rfl rfl (fun h => d248 h) rk248 (by decide +kernel)
set_option maxRecDepth 100000 in
theorem pc248 : cutpc [61, 116, 207, 229] R248 = true := by decide +kernel
set_option maxRecDepth 100000 in
theorem r12_sharesOut_229 (F242 : PM → Int32 → Int32 → Int32 → Int32 → Int32) (G242 : PM → Int32 → Int32 → Int32 → Int32 → Prop) (o242 : CalOK 2 (CC242 F242 G242)) (F226 : PM → Int32 → Int32) (G226 : PM → Int32 → Prop) (o226 : CalOK 2 (CC226 F226 G226)) (F244 : PM → Int32 → Int32 → Int32) (G244 : PM → Int32 → Int32 → Prop) (o244 : CalOK 2 (CC244 F244 G244)) (F241 : PM → Int32 → Int32 → Int32 → Int32 → Int32) (G241 : PM → Int32 → Int32 → Int32 → Int32 → Prop) (o241 : CalOK 2 (CC241 F241 G241)) (kv207 : PM → Int32 → Int32 → Int32 → Int32 → Int32 → Int32 → PM) (kg207 : PM → Int32 → Int32 → Int32 → Int32 → Int32 → Int32 → Prop) (hk207 : ∀ (p : PM) (v1 : Int32) (v2 : Int32) (v3 : Int32) (v6 : Int32) (v7 : Int32) (v8 : Int32) (d4 d5 d9 d10 d11 : ZV), Gr 2 p → kg207 p v1 v2 v3 v6 v7 v8 → ZJ 2 248 207 [zR 12 1, zI v1, zI v2, zI v3, d4, d5, zI v6, zI v7, zI v8, d9, d10, d11] [] p (hwV (kv207 p v1 v2 v3 v6 v7 v8))) (kv229 : PM → Int32 → Int32 → Int32 → Int32 → Int32 → Int32 → Int32 → PM) (kg229 : PM → Int32 → Int32 → Int32 → Int32 → Int32 → Int32 → Int32 → Prop) (hk229 : ∀ (p : PM) (v1 : Int32) (v2 : Int32) (v3 : Int32) (v6 : Int32) (v7 : Int32) (v8 : Int32) (v9 : Int32) (d4 d5 d10 d11 : ZV), Gr 2 p → kg229 p v1 v2 v3 v6 v7 v8 v9 → ZJ 2 248 229 [zR 12 1, zI v1, zI v2, zI v3, d4, d5, zI v6, zI v7, zI v8, zI v9, d10, d11] [] p (hwV (kv229 p v1 v2 v3 v6 v7 v8 v9))) : ∀ (p : PM) (v1 : Int32) (v2 : Int32) (v3 : Int32) (v6 : Int32) (v7 : Int32) (v8 : Int32) (v9 : Int32) (d4 d5 d10 d11 : ZV), Gr 2 p → bg12_sharesOut_229 F226 G226 F242 G242 kg207 kg229 p v1 v2 v3 v6 v7 v8 v9 → ZJ 2 248 229 [zR 12 1, zI v1, zI v2, zI v3, d4, d5, zI v6, zI v7, zI v8, zI v9, d10, d11] [] p (hwV (bv12_sharesOut_229 F226 F242 kv207 kv229 p v1 v2 v3 v6 v7 v8 v9)) := by
  intro p v1 v2 v3 v6 v7 v8 v9 d4 d5 d10 d11 hg H
  exact rwV (n := 3000) (q := 229) (la := [zR 12 1, zI v1, zI v2, zI v3, d4, d5, zI v6, zI v7, zI v8, zI v9, d10, d11]) (sa := []) (ks := [fun _ _ s => s, fun _ _ s => s, fun la sa s => kv207 s (ai la 1) (ai la 2) (ai la 3) (ai la 6) (ai la 7) (ai la 8), fun la sa s => kv229 s (ai la 1) (ai la 2) (ai la 3) (ai la 6) (ai la 7) (ai la 8) (ai la 9)]) (gs := [fun _ _ _ => False, fun _ _ _ => False, fun la sa s => zsw (tc2 la [(112, 1), (0, 0), (0, 0), (0, 0), (2, 0), (2, 0), (0, 0), (0, 0), (0, 0), (2, 0), (2, 0), (2, 0)] && tc2 sa []) False (kg207 s (ai la 1) (ai la 2) (ai la 3) (ai la 6) (ai la 7) (ai la 8)), fun la sa s => zsw (tc2 la [(112, 1), (0, 0), (0, 0), (0, 0), (2, 0), (2, 0), (0, 0), (0, 0), (0, 0), (0, 0), (2, 0), (2, 0)] && tc2 sa []) False (kg229 s (ai la 1) (ai la 2) (ai la 3) (ai la 6) (ai la 7) (ai la 8) (ai la 9))]) (fcons o242 (fcons o226 (fcons o244 (fcons o241 (fnil))))) tab248 pc248 ⟨fun _ _ _ _ H => H.elim, fun _ _ _ _ H => H.elim, fun la sa s hg H => zcut H fun H => hk207 s (ai la 1) (ai la 2) (ai la 3) (ai la 6) (ai la 7) (ai la 8) (zld la 4) (zld la 5) (zld la 9) (zld la 10) (zld la 11) hg H, fun la sa s hg H => zcut H fun H => hk229 s (ai la 1) (ai la 2) (ai la 3) (ai la 6) (ai la 7) (ai la 8) (ai la 9) (zld la 4) (zld la 5) (zld la 10) (zld la 11) hg H, trivial⟩ hg H
theorem t12_sharesOut_229 (kv207 : PM → Int32 → Int32 → Int32 → Int32 → Int32 → Int32 → PM) (kg207 : PM → Int32 → Int32 → Int32 → Int32 → Int32 → Int32 → Prop) (hk207 : ∀ (p : PM) (v1 : Int32) (v2 : Int32) (v3 : Int32) (v6 : Int32) (v7 : Int32) (v8 : Int32) (d4 d5 d9 d10 d11 : ZV), Gr 2 p → kg207 p v1 v2 v3 v6 v7 v8 → ZJ 2 248 207 [zR 12 1, zI v1, zI v2, zI v3, d4, d5, zI v6, zI v7, zI v8, d9, d10, d11] [] p (hwV (kv207 p v1 v2 v3 v6 v7 v8))) : ∀ (n : Nat), ∀ (p : PM) (v1 : Int32) (v2 : Int32) (v3 : Int32) (v6 : Int32) (v7 : Int32) (v8 : Int32) (v9 : Int32) (d4 d5 d10 d11 : ZV), Gr 2 p → g12_sharesOut_229 kg207 n p v1 v2 v3 v6 v7 v8 v9 → ZJ 2 248 229 [zR 12 1, zI v1, zI v2, zI v3, d4, d5, zI v6, zI v7, zI v8, zI v9, d10, d11] [] p (hwV (v12_sharesOut_229 kv207 n p v1 v2 v3 v6 v7 v8 v9)) := by
  intro n
  induction n with
  | zero =>
    intro p v1 v2 v3 v6 v7 v8 v9 d4 d5 d10 d11 hg H
    exact H.elim
  | succ n ih => exact r12_sharesOut_229 v12_behindTurn g12_behindTurn ok242 v12_showsNow g12_showsNow ok226 v12_least g12_least ok244 v12_isAt g12_isAt ok241 kv207 kg207 hk207 (v12_sharesOut_229 kv207 n) (g12_sharesOut_229 kg207 n) ih
set_option maxRecDepth 100000 in
theorem r12_sharesOut_207 (F242 : PM → Int32 → Int32 → Int32 → Int32 → Int32) (G242 : PM → Int32 → Int32 → Int32 → Int32 → Prop) (o242 : CalOK 2 (CC242 F242 G242)) (F226 : PM → Int32 → Int32) (G226 : PM → Int32 → Prop) (o226 : CalOK 2 (CC226 F226 G226)) (F244 : PM → Int32 → Int32 → Int32) (G244 : PM → Int32 → Int32 → Prop) (o244 : CalOK 2 (CC244 F244 G244)) (F241 : PM → Int32 → Int32 → Int32 → Int32 → Int32) (G241 : PM → Int32 → Int32 → Int32 → Int32 → Prop) (o241 : CalOK 2 (CC241 F241 G241)) (kv229 : PM → Int32 → Int32 → Int32 → Int32 → Int32 → Int32 → Int32 → PM) (kg229 : PM → Int32 → Int32 → Int32 → Int32 → Int32 → Int32 → Int32 → Prop) (hk229 : ∀ (p : PM) (v1 : Int32) (v2 : Int32) (v3 : Int32) (v6 : Int32) (v7 : Int32) (v8 : Int32) (v9 : Int32) (d4 d5 d10 d11 : ZV), Gr 2 p → kg229 p v1 v2 v3 v6 v7 v8 v9 → ZJ 2 248 229 [zR 12 1, zI v1, zI v2, zI v3, d4, d5, zI v6, zI v7, zI v8, zI v9, d10, d11] [] p (hwV (kv229 p v1 v2 v3 v6 v7 v8 v9))) : ∀ (p : PM) (v1 : Int32) (v2 : Int32) (v3 : Int32) (v6 : Int32) (v7 : Int32) (v8 : Int32) (d4 d5 d9 d10 d11 : ZV), Gr 2 p → bg12_sharesOut_207 F242 G242 kg229 p v1 v2 v3 v6 v7 v8 → ZJ 2 248 207 [zR 12 1, zI v1, zI v2, zI v3, d4, d5, zI v6, zI v7, zI v8, d9, d10, d11] [] p (hwV (bv12_sharesOut_207 F242 kv229 p v1 v2 v3 v6 v7 v8)) := by
  intro p v1 v2 v3 v6 v7 v8 d4 d5 d9 d10 d11 hg H
  exact rwV (n := 3000) (q := 207) (la := [zR 12 1, zI v1, zI v2, zI v3, d4, d5, zI v6, zI v7, zI v8, d9, d10, d11]) (sa := []) (ks := [fun _ _ s => s, fun _ _ s => s, fun _ _ s => s, fun la sa s => kv229 s (ai la 1) (ai la 2) (ai la 3) (ai la 6) (ai la 7) (ai la 8) (ai la 9)]) (gs := [fun _ _ _ => False, fun _ _ _ => False, fun _ _ _ => False, fun la sa s => zsw (tc2 la [(112, 1), (0, 0), (0, 0), (0, 0), (2, 0), (2, 0), (0, 0), (0, 0), (0, 0), (0, 0), (2, 0), (2, 0)] && tc2 sa []) False (kg229 s (ai la 1) (ai la 2) (ai la 3) (ai la 6) (ai la 7) (ai la 8) (ai la 9))]) (fcons o242 (fcons o226 (fcons o244 (fcons o241 (fnil))))) tab248 pc248 ⟨fun _ _ _ _ H => H.elim, fun _ _ _ _ H => H.elim, fun _ _ _ _ H => H.elim, fun la sa s hg H => zcut H fun H => hk229 s (ai la 1) (ai la 2) (ai la 3) (ai la 6) (ai la 7) (ai la 8) (ai la 9) (zld la 4) (zld la 5) (zld la 10) (zld la 11) hg H, trivial⟩ hg H
theorem t12_sharesOut_207 : ∀ (n : Nat), ∀ (p : PM) (v1 : Int32) (v2 : Int32) (v3 : Int32) (v6 : Int32) (v7 : Int32) (v8 : Int32) (d4 d5 d9 d10 d11 : ZV), Gr 2 p → g12_sharesOut_207 n p v1 v2 v3 v6 v7 v8 → ZJ 2 248 207 [zR 12 1, zI v1, zI v2, zI v3, d4, d5, zI v6, zI v7, zI v8, d9, d10, d11] [] p (hwV (v12_sharesOut_207 n p v1 v2 v3 v6 v7 v8)) := by
  intro n
  induction n with
  | zero =>
    intro p v1 v2 v3 v6 v7 v8 d4 d5 d9 d10 d11 hg H
    exact H.elim
  | succ n ih => exact r12_sharesOut_207 v12_behindTurn g12_behindTurn ok242 v12_showsNow g12_showsNow ok226 v12_least g12_least ok244 v12_isAt g12_isAt ok241 (v12_sharesOut_229 (v12_sharesOut_207 n) FU) (g12_sharesOut_229 (g12_sharesOut_207 n) FU) (t12_sharesOut_229 (v12_sharesOut_207 n) (g12_sharesOut_207 n) ih FU)
set_option maxRecDepth 100000 in
theorem r12_sharesOut_116 (F242 : PM → Int32 → Int32 → Int32 → Int32 → Int32) (G242 : PM → Int32 → Int32 → Int32 → Int32 → Prop) (o242 : CalOK 2 (CC242 F242 G242)) (F226 : PM → Int32 → Int32) (G226 : PM → Int32 → Prop) (o226 : CalOK 2 (CC226 F226 G226)) (F244 : PM → Int32 → Int32 → Int32) (G244 : PM → Int32 → Int32 → Prop) (o244 : CalOK 2 (CC244 F244 G244)) (F241 : PM → Int32 → Int32 → Int32 → Int32 → Int32) (G241 : PM → Int32 → Int32 → Int32 → Int32 → Prop) (o241 : CalOK 2 (CC241 F241 G241)) (kv116 : PM → Int32 → Int32 → Int32 → Int32 → Int32 → Int32 → Int32 → PM) (kg116 : PM → Int32 → Int32 → Int32 → Int32 → Int32 → Int32 → Int32 → Prop) (hk116 : ∀ (p : PM) (v1 : Int32) (v2 : Int32) (v3 : Int32) (v6 : Int32) (v7 : Int32) (v8 : Int32) (v9 : Int32) (d4 d5 d10 d11 : ZV), Gr 2 p → kg116 p v1 v2 v3 v6 v7 v8 v9 → ZJ 2 248 116 [zR 12 1, zI v1, zI v2, zI v3, d4, d5, zI v6, zI v7, zI v8, zI v9, d10, d11] [] p (hwV (kv116 p v1 v2 v3 v6 v7 v8 v9))) (kv207 : PM → Int32 → Int32 → Int32 → Int32 → Int32 → Int32 → PM) (kg207 : PM → Int32 → Int32 → Int32 → Int32 → Int32 → Int32 → Prop) (hk207 : ∀ (p : PM) (v1 : Int32) (v2 : Int32) (v3 : Int32) (v6 : Int32) (v7 : Int32) (v8 : Int32) (d4 d5 d9 d10 d11 : ZV), Gr 2 p → kg207 p v1 v2 v3 v6 v7 v8 → ZJ 2 248 207 [zR 12 1, zI v1, zI v2, zI v3, d4, d5, zI v6, zI v7, zI v8, d9, d10, d11] [] p (hwV (kv207 p v1 v2 v3 v6 v7 v8))) : ∀ (p : PM) (v1 : Int32) (v2 : Int32) (v3 : Int32) (v6 : Int32) (v7 : Int32) (v8 : Int32) (v9 : Int32) (d4 d5 d10 d11 : ZV), Gr 2 p → bg12_sharesOut_116 F226 G226 F241 G241 kg116 kg207 p v1 v2 v3 v6 v7 v8 v9 → ZJ 2 248 116 [zR 12 1, zI v1, zI v2, zI v3, d4, d5, zI v6, zI v7, zI v8, zI v9, d10, d11] [] p (hwV (bv12_sharesOut_116 F226 F241 kv116 kv207 p v1 v2 v3 v6 v7 v8 v9)) := by
  intro p v1 v2 v3 v6 v7 v8 v9 d4 d5 d10 d11 hg H
  exact rwV (n := 3000) (q := 116) (la := [zR 12 1, zI v1, zI v2, zI v3, d4, d5, zI v6, zI v7, zI v8, zI v9, d10, d11]) (sa := []) (ks := [fun _ _ s => s, fun la sa s => kv116 s (ai la 1) (ai la 2) (ai la 3) (ai la 6) (ai la 7) (ai la 8) (ai la 9), fun la sa s => kv207 s (ai la 1) (ai la 2) (ai la 3) (ai la 6) (ai la 7) (ai la 8), fun _ _ s => s]) (gs := [fun _ _ _ => False, fun la sa s => zsw (tc2 la [(112, 1), (0, 0), (0, 0), (0, 0), (2, 0), (2, 0), (0, 0), (0, 0), (0, 0), (0, 0), (2, 0), (2, 0)] && tc2 sa []) False (kg116 s (ai la 1) (ai la 2) (ai la 3) (ai la 6) (ai la 7) (ai la 8) (ai la 9)), fun la sa s => zsw (tc2 la [(112, 1), (0, 0), (0, 0), (0, 0), (2, 0), (2, 0), (0, 0), (0, 0), (0, 0), (2, 0), (2, 0), (2, 0)] && tc2 sa []) False (kg207 s (ai la 1) (ai la 2) (ai la 3) (ai la 6) (ai la 7) (ai la 8)), fun _ _ _ => False]) (fcons o242 (fcons o226 (fcons o244 (fcons o241 (fnil))))) tab248 pc248 ⟨fun _ _ _ _ H => H.elim, fun la sa s hg H => zcut H fun H => hk116 s (ai la 1) (ai la 2) (ai la 3) (ai la 6) (ai la 7) (ai la 8) (ai la 9) (zld la 4) (zld la 5) (zld la 10) (zld la 11) hg H, fun la sa s hg H => zcut H fun H => hk207 s (ai la 1) (ai la 2) (ai la 3) (ai la 6) (ai la 7) (ai la 8) (zld la 4) (zld la 5) (zld la 9) (zld la 10) (zld la 11) hg H, fun _ _ _ _ H => H.elim, trivial⟩ hg H
theorem t12_sharesOut_116 : ∀ (n : Nat), ∀ (p : PM) (v1 : Int32) (v2 : Int32) (v3 : Int32) (v6 : Int32) (v7 : Int32) (v8 : Int32) (v9 : Int32) (d4 d5 d10 d11 : ZV), Gr 2 p → g12_sharesOut_116 n p v1 v2 v3 v6 v7 v8 v9 → ZJ 2 248 116 [zR 12 1, zI v1, zI v2, zI v3, d4, d5, zI v6, zI v7, zI v8, zI v9, d10, d11] [] p (hwV (v12_sharesOut_116 n p v1 v2 v3 v6 v7 v8 v9)) := by
  intro n
  induction n with
  | zero =>
    intro p v1 v2 v3 v6 v7 v8 v9 d4 d5 d10 d11 hg H
    exact H.elim
  | succ n ih => exact r12_sharesOut_116 v12_behindTurn g12_behindTurn ok242 v12_showsNow g12_showsNow ok226 v12_least g12_least ok244 v12_isAt g12_isAt ok241 (v12_sharesOut_116 n) (g12_sharesOut_116 n) ih (v12_sharesOut_207 FU) (g12_sharesOut_207 FU) (t12_sharesOut_207 FU)
set_option maxRecDepth 100000 in
theorem r12_sharesOut_61 (F242 : PM → Int32 → Int32 → Int32 → Int32 → Int32) (G242 : PM → Int32 → Int32 → Int32 → Int32 → Prop) (o242 : CalOK 2 (CC242 F242 G242)) (F226 : PM → Int32 → Int32) (G226 : PM → Int32 → Prop) (o226 : CalOK 2 (CC226 F226 G226)) (F244 : PM → Int32 → Int32 → Int32) (G244 : PM → Int32 → Int32 → Prop) (o244 : CalOK 2 (CC244 F244 G244)) (F241 : PM → Int32 → Int32 → Int32 → Int32 → Int32) (G241 : PM → Int32 → Int32 → Int32 → Int32 → Prop) (o241 : CalOK 2 (CC241 F241 G241)) (kv61 : PM → Int32 → Int32 → Int32 → Int32 → Int32 → Int32 → PM) (kg61 : PM → Int32 → Int32 → Int32 → Int32 → Int32 → Int32 → Prop) (hk61 : ∀ (p : PM) (v1 : Int32) (v2 : Int32) (v3 : Int32) (v6 : Int32) (v7 : Int32) (v8 : Int32) (d4 d5 d9 d10 d11 : ZV), Gr 2 p → kg61 p v1 v2 v3 v6 v7 v8 → ZJ 2 248 61 [zR 12 1, zI v1, zI v2, zI v3, d4, d5, zI v6, zI v7, zI v8, d9, d10, d11] [] p (hwV (kv61 p v1 v2 v3 v6 v7 v8))) (kv116 : PM → Int32 → Int32 → Int32 → Int32 → Int32 → Int32 → Int32 → PM) (kg116 : PM → Int32 → Int32 → Int32 → Int32 → Int32 → Int32 → Int32 → Prop) (hk116 : ∀ (p : PM) (v1 : Int32) (v2 : Int32) (v3 : Int32) (v6 : Int32) (v7 : Int32) (v8 : Int32) (v9 : Int32) (d4 d5 d10 d11 : ZV), Gr 2 p → kg116 p v1 v2 v3 v6 v7 v8 v9 → ZJ 2 248 116 [zR 12 1, zI v1, zI v2, zI v3, d4, d5, zI v6, zI v7, zI v8, zI v9, d10, d11] [] p (hwV (kv116 p v1 v2 v3 v6 v7 v8 v9))) : ∀ (p : PM) (v1 : Int32) (v2 : Int32) (v3 : Int32) (v6 : Int32) (v7 : Int32) (v8 : Int32) (d4 d5 d9 d10 d11 : ZV), Gr 2 p → bg12_sharesOut_61 F226 G226 F241 G241 kg61 kg116 p v1 v2 v3 v6 v7 v8 → ZJ 2 248 61 [zR 12 1, zI v1, zI v2, zI v3, d4, d5, zI v6, zI v7, zI v8, d9, d10, d11] [] p (hwV (bv12_sharesOut_61 F226 F241 kv61 kv116 p v1 v2 v3 v6 v7 v8)) := by
  intro p v1 v2 v3 v6 v7 v8 d4 d5 d9 d10 d11 hg H
  exact rwV (n := 3000) (q := 61) (la := [zR 12 1, zI v1, zI v2, zI v3, d4, d5, zI v6, zI v7, zI v8, d9, d10, d11]) (sa := []) (ks := [fun la sa s => kv61 s (ai la 1) (ai la 2) (ai la 3) (ai la 6) (ai la 7) (ai la 8), fun la sa s => kv116 s (ai la 1) (ai la 2) (ai la 3) (ai la 6) (ai la 7) (ai la 8) (ai la 9), fun _ _ s => s, fun _ _ s => s]) (gs := [fun la sa s => zsw (tc2 la [(112, 1), (0, 0), (0, 0), (0, 0), (2, 0), (2, 0), (0, 0), (0, 0), (0, 0), (2, 0), (2, 0), (2, 0)] && tc2 sa []) False (kg61 s (ai la 1) (ai la 2) (ai la 3) (ai la 6) (ai la 7) (ai la 8)), fun la sa s => zsw (tc2 la [(112, 1), (0, 0), (0, 0), (0, 0), (2, 0), (2, 0), (0, 0), (0, 0), (0, 0), (0, 0), (2, 0), (2, 0)] && tc2 sa []) False (kg116 s (ai la 1) (ai la 2) (ai la 3) (ai la 6) (ai la 7) (ai la 8) (ai la 9)), fun _ _ _ => False, fun _ _ _ => False]) (fcons o242 (fcons o226 (fcons o244 (fcons o241 (fnil))))) tab248 pc248 ⟨fun la sa s hg H => zcut H fun H => hk61 s (ai la 1) (ai la 2) (ai la 3) (ai la 6) (ai la 7) (ai la 8) (zld la 4) (zld la 5) (zld la 9) (zld la 10) (zld la 11) hg H, fun la sa s hg H => zcut H fun H => hk116 s (ai la 1) (ai la 2) (ai la 3) (ai la 6) (ai la 7) (ai la 8) (ai la 9) (zld la 4) (zld la 5) (zld la 10) (zld la 11) hg H, fun _ _ _ _ H => H.elim, fun _ _ _ _ H => H.elim, trivial⟩ hg H
theorem t12_sharesOut_61 : ∀ (n : Nat), ∀ (p : PM) (v1 : Int32) (v2 : Int32) (v3 : Int32) (v6 : Int32) (v7 : Int32) (v8 : Int32) (d4 d5 d9 d10 d11 : ZV), Gr 2 p → g12_sharesOut_61 n p v1 v2 v3 v6 v7 v8 → ZJ 2 248 61 [zR 12 1, zI v1, zI v2, zI v3, d4, d5, zI v6, zI v7, zI v8, d9, d10, d11] [] p (hwV (v12_sharesOut_61 n p v1 v2 v3 v6 v7 v8)) := by
  intro n
  induction n with
  | zero =>
    intro p v1 v2 v3 v6 v7 v8 d4 d5 d9 d10 d11 hg H
    exact H.elim
  | succ n ih => exact r12_sharesOut_61 v12_behindTurn g12_behindTurn ok242 v12_showsNow g12_showsNow ok226 v12_least g12_least ok244 v12_isAt g12_isAt ok241 (v12_sharesOut_61 n) (g12_sharesOut_61 n) ih (v12_sharesOut_116 FU) (g12_sharesOut_116 FU) (t12_sharesOut_116 FU)
set_option maxRecDepth 100000 in
theorem r12_sharesOut (F242 : PM → Int32 → Int32 → Int32 → Int32 → Int32) (G242 : PM → Int32 → Int32 → Int32 → Int32 → Prop) (o242 : CalOK 2 (CC242 F242 G242)) (F226 : PM → Int32 → Int32) (G226 : PM → Int32 → Prop) (o226 : CalOK 2 (CC226 F226 G226)) (F244 : PM → Int32 → Int32 → Int32) (G244 : PM → Int32 → Int32 → Prop) (o244 : CalOK 2 (CC244 F244 G244)) (F241 : PM → Int32 → Int32 → Int32 → Int32 → Int32) (G241 : PM → Int32 → Int32 → Int32 → Int32 → Prop) (o241 : CalOK 2 (CC241 F241 G241)) (kv61 : PM → Int32 → Int32 → Int32 → Int32 → Int32 → Int32 → PM) (kg61 : PM → Int32 → Int32 → Int32 → Int32 → Int32 → Int32 → Prop) (hk61 : ∀ (p : PM) (v1 : Int32) (v2 : Int32) (v3 : Int32) (v6 : Int32) (v7 : Int32) (v8 : Int32) (d4 d5 d9 d10 d11 : ZV), Gr 2 p → kg61 p v1 v2 v3 v6 v7 v8 → ZJ 2 248 61 [zR 12 1, zI v1, zI v2, zI v3, d4, d5, zI v6, zI v7, zI v8, d9, d10, d11] [] p (hwV (kv61 p v1 v2 v3 v6 v7 v8))) : ∀ (p : PM) (v1 : Int32) (v2 : Int32) (v3 : Int32) (v4 : Int32), Gr 2 p → bg12_sharesOut F226 G226 F242 G242 F244 G244 kg61 p v1 v2 v3 v4 → ZJ 2 248 0 [zR 12 1, zI v1, zI v2, zI v3, zI v4, zJ, zJ, zJ, zJ, zJ, zJ, zJ] [] p (hwV (bv12_sharesOut F226 F242 F244 kv61 p v1 v2 v3 v4)) := by
  intro p v1 v2 v3 v4  hg H
  exact rwV (n := 3000) (q := 0) (la := [zR 12 1, zI v1, zI v2, zI v3, zI v4, zJ, zJ, zJ, zJ, zJ, zJ, zJ]) (sa := []) (ks := [fun la sa s => kv61 s (ai la 1) (ai la 2) (ai la 3) (ai la 6) (ai la 7) (ai la 8), fun _ _ s => s, fun _ _ s => s, fun _ _ s => s]) (gs := [fun la sa s => zsw (tc2 la [(112, 1), (0, 0), (0, 0), (0, 0), (2, 0), (2, 0), (0, 0), (0, 0), (0, 0), (2, 0), (2, 0), (2, 0)] && tc2 sa []) False (kg61 s (ai la 1) (ai la 2) (ai la 3) (ai la 6) (ai la 7) (ai la 8)), fun _ _ _ => False, fun _ _ _ => False, fun _ _ _ => False]) (fcons o242 (fcons o226 (fcons o244 (fcons o241 (fnil))))) tab248 pc248 ⟨fun la sa s hg H => zcut H fun H => hk61 s (ai la 1) (ai la 2) (ai la 3) (ai la 6) (ai la 7) (ai la 8) (zld la 4) (zld la 5) (zld la 9) (zld la 10) (zld la 11) hg H, fun _ _ _ _ H => H.elim, fun _ _ _ _ H => H.elim, fun _ _ _ _ H => H.elim, trivial⟩ hg H
theorem t12_sharesOut : ∀ (p : PM) (v1 : Int32) (v2 : Int32) (v3 : Int32) (v4 : Int32), Gr 2 p → g12_sharesOut p v1 v2 v3 v4 → ZJ 2 248 0 [zR 12 1, zI v1, zI v2, zI v3, zI v4, zJ, zJ, zJ, zJ, zJ, zJ, zJ] [] p (hwV (v12_sharesOut p v1 v2 v3 v4)) := r12_sharesOut v12_behindTurn g12_behindTurn ok242 v12_showsNow g12_showsNow ok226 v12_least g12_least ok244 v12_isAt g12_isAt ok241 (v12_sharesOut_61 FU) (g12_sharesOut_61 FU) (t12_sharesOut_61 FU)
def CC248 (F : PM → Int32 → Int32 → Int32 → Int32 → PM) (G : PM → Int32 → Int32 → Int32 → Int32 → Prop) : Cal := (248, [15, 0, 0, 0, 0], 0, false, fun as p => (zJ, (F p (ai as 1) (ai as 2) (ai as 3) (ai as 4))), fun as p => zsw (tc2 as [(112, 1), (0, 0), (0, 0), (0, 0), (0, 0)]) False (G p (ai as 1) (ai as 2) (ai as 3) (ai as 4)))
set_option maxRecDepth 100000 in
theorem okr248 (F : PM → Int32 → Int32 → Int32 → Int32 → PM) (G : PM → Int32 → Int32 → Int32 → Int32 → Prop) (h : ∀ (p : PM) (v1 : Int32) (v2 : Int32) (v3 : Int32) (v4 : Int32), Gr 2 p → G p v1 v2 v3 v4 → ZJ 2 248 0 [zR 12 1, zI v1, zI v2, zI v3, zI v4, zJ, zJ, zJ, zJ, zJ, zJ, zJ] [] p (hwV (F p v1 v2 v3 v4))) : CalOK 2 (CC248 F G) := cal_ok (m := 12) (by unfold mL; rw [mX_248]) (fun as p hg H => h p (ai as 1) (ai as 2) (ai as 3) (ai as 4) hg H)
theorem ok248 : CalOK 2 (CC248 v12_sharesOut g12_sharesOut) := okr248 v12_sharesOut g12_sharesOut t12_sharesOut
noncomputable def bv12_tradesWith_49 (F225 : PM → Int32 → PM) (F227 : PM → Int32 → PM) (F233 : PM → Int32 → Int32 → Int32 → Int32 → Int32 → PM) (F236 : PM → Int32 → Int32 → Int32 → PM) (F237 : PM → Int32 → PM) (p : PM) (v1 : Int32) (v2 : Int32) (v3 : Int32) (v4 : Int32) (s0 : Int32) : PM :=
  if (p.1 15 4 (v1).toNatClampNeg) = 0 then (
    let x1 : Int32 := (p.1 13 15 (v2).toNatClampNeg)
    let p2 : PM := F233 p (p.1 13 16 (v1).toNatClampNeg) x1 s0 v3 v4
    let p3 : PM := F236 p2 v1 v4 (cn 0)
    let p4 : PM := F236 p3 v2 v4 (cn 1)
    if (p4.1 15 3 (v2).toNatClampNeg) = 0 then (
      let p5 : PM := F237 p4 v1
      let p6 : PM := F237 p5 v2
      p6)
    else (
      if (p4.1 13 19 (v2).toNatClampNeg) = (cn 1) then (
        if (p4.1 13 22 (v2).toNatClampNeg) = 0 then (
          let p11 : PM := F227 p4 v2
          let p12 : PM := F225 p11 v2
          let p13 : PM := F237 p12 v1
          let p14 : PM := F237 p13 v2
          p14)
        else (
          let p9 : PM := F237 p4 v1
          let p10 : PM := F237 p9 v2
          p10))
      else (
        let p7 : PM := F237 p4 v1
        let p8 : PM := F237 p7 v2
        p8)))
  else (
    let x15 : Int32 := (p.1 13 15 (v1).toNatClampNeg)
    let p16 : PM := F233 p (p.1 13 16 (v1).toNatClampNeg) x15 s0 v3 v4
    let p17 : PM := F236 p16 v1 v4 (cn 0)
    let p18 : PM := F236 p17 v2 v4 (cn 1)
    if (p18.1 15 3 (v2).toNatClampNeg) = 0 then (
      let p19 : PM := F237 p18 v1
      let p20 : PM := F237 p19 v2
      p20)
    else (
      if (p18.1 13 19 (v2).toNatClampNeg) = (cn 1) then (
        if (p18.1 13 22 (v2).toNatClampNeg) = 0 then (
          let p25 : PM := F227 p18 v2
          let p26 : PM := F225 p25 v2
          let p27 : PM := F237 p26 v1
          let p28 : PM := F237 p27 v2
          p28)
        else (
          let p23 : PM := F237 p18 v1
          let p24 : PM := F237 p23 v2
          p24))
      else (
        let p21 : PM := F237 p18 v1
        let p22 : PM := F237 p21 v2
        p22)))
noncomputable def v12_tradesWith_49 (p : PM) (v1 : Int32) (v2 : Int32) (v3 : Int32) (v4 : Int32) (s0 : Int32) : PM := bv12_tradesWith_49 v12_newTurn v12_showsAnew v12_deals v12_falls v12_guards p v1 v2 v3 v4 s0
noncomputable def bg12_tradesWith_49 (F225 : PM → Int32 → PM) (G225 : PM → Int32 → Prop) (F227 : PM → Int32 → PM) (G227 : PM → Int32 → Prop) (F233 : PM → Int32 → Int32 → Int32 → Int32 → Int32 → PM) (G233 : PM → Int32 → Int32 → Int32 → Int32 → Int32 → Prop) (F236 : PM → Int32 → Int32 → Int32 → PM) (G236 : PM → Int32 → Int32 → Int32 → Prop) (F237 : PM → Int32 → PM) (G237 : PM → Int32 → Prop) (p : PM) (v1 : Int32) (v2 : Int32) (v3 : Int32) (v4 : Int32) (s0 : Int32) : Prop :=
  (inb v1 44) ∧ (
  if (p.1 15 4 (v1).toNatClampNeg) = 0 then (
    (inb v2 44) ∧ (
    let x1 : Int32 := (p.1 13 15 (v2).toNatClampNeg)
    (inb v1 44) ∧ (
    (G233 p (p.1 13 16 (v1).toNatClampNeg) x1 s0 v3 v4) ∧ (
    let p2 : PM := F233 p (p.1 13 16 (v1).toNatClampNeg) x1 s0 v3 v4
    (G236 p2 v1 v4 (cn 0)) ∧ (
    let p3 : PM := F236 p2 v1 v4 (cn 0)
    (G236 p3 v2 v4 (cn 1)) ∧ (
    let p4 : PM := F236 p3 v2 v4 (cn 1)
    (inb v2 44) ∧ (
    if (p4.1 15 3 (v2).toNatClampNeg) = 0 then (
      (G237 p4 v1) ∧ (
      let p5 : PM := F237 p4 v1
      (G237 p5 v2) ∧ (
      let p6 : PM := F237 p5 v2
      True)))
    else (
      (inb v2 44) ∧ (
      if (p4.1 13 19 (v2).toNatClampNeg) = (cn 1) then (
        (inb v2 44) ∧ (
        if (p4.1 13 22 (v2).toNatClampNeg) = 0 then (
          (G227 p4 v2) ∧ (
          let p11 : PM := F227 p4 v2
          (G225 p11 v2) ∧ (
          let p12 : PM := F225 p11 v2
          (G237 p12 v1) ∧ (
          let p13 : PM := F237 p12 v1
          (G237 p13 v2) ∧ (
          let p14 : PM := F237 p13 v2
          True)))))
        else (
          (G237 p4 v1) ∧ (
          let p9 : PM := F237 p4 v1
          (G237 p9 v2) ∧ (
          let p10 : PM := F237 p9 v2
          True)))))
      else (
        (G237 p4 v1) ∧ (
        let p7 : PM := F237 p4 v1
        (G237 p7 v2) ∧ (
        let p8 : PM := F237 p7 v2
        True))))))))))))
  else (
    (inb v1 44) ∧ (
    let x15 : Int32 := (p.1 13 15 (v1).toNatClampNeg)
    (inb v1 44) ∧ (
    (G233 p (p.1 13 16 (v1).toNatClampNeg) x15 s0 v3 v4) ∧ (
    let p16 : PM := F233 p (p.1 13 16 (v1).toNatClampNeg) x15 s0 v3 v4
    (G236 p16 v1 v4 (cn 0)) ∧ (
    let p17 : PM := F236 p16 v1 v4 (cn 0)
    (G236 p17 v2 v4 (cn 1)) ∧ (
    let p18 : PM := F236 p17 v2 v4 (cn 1)
    (inb v2 44) ∧ (
    if (p18.1 15 3 (v2).toNatClampNeg) = 0 then (
      (G237 p18 v1) ∧ (
      let p19 : PM := F237 p18 v1
      (G237 p19 v2) ∧ (
      let p20 : PM := F237 p19 v2
      True)))
    else (
      (inb v2 44) ∧ (
      if (p18.1 13 19 (v2).toNatClampNeg) = (cn 1) then (
        (inb v2 44) ∧ (
        if (p18.1 13 22 (v2).toNatClampNeg) = 0 then (
          (G227 p18 v2) ∧ (
          let p25 : PM := F227 p18 v2
          (G225 p25 v2) ∧ (
          let p26 : PM := F225 p25 v2
          (G237 p26 v1) ∧ (
          let p27 : PM := F237 p26 v1
          (G237 p27 v2) ∧ (
          let p28 : PM := F237 p27 v2
          True)))))
        else (
          (G237 p18 v1) ∧ (
          let p23 : PM := F237 p18 v1
          (G237 p23 v2) ∧ (
          let p24 : PM := F237 p23 v2
          True)))))
      else (
        (G237 p18 v1) ∧ (
        let p21 : PM := F237 p18 v1
        (G237 p21 v2) ∧ (
        let p22 : PM := F237 p21 v2
        True)))))))))))))
noncomputable def g12_tradesWith_49 (p : PM) (v1 : Int32) (v2 : Int32) (v3 : Int32) (v4 : Int32) (s0 : Int32) : Prop := bg12_tradesWith_49 v12_newTurn g12_newTurn v12_showsAnew g12_showsAnew v12_deals g12_deals v12_falls g12_falls v12_guards g12_guards p v1 v2 v3 v4 s0
noncomputable def bv12_tradesWith (F244 : PM → Int32 → Int32 → Int32) (kv49 : PM → Int32 → Int32 → Int32 → Int32 → Int32 → PM) (p : PM) (v1 : Int32) (v2 : Int32) (v3 : Int32) : PM :=
  let x1 : Int32 := (F244 p (p.1 13 29 (v2).toNatClampNeg) (p.1 13 17 (v1).toNatClampNeg))
  let p2 : PM := pI p 13 29 (v2).toNatClampNeg (cn 0)
  if (p2.1 15 4 (v1).toNatClampNeg) = 0 then (
    kv49 p2 v1 v2 v3 x1 (p2.1 13 15 (v1).toNatClampNeg))
  else (
    kv49 p2 v1 v2 v3 x1 (p2.1 13 15 (v2).toNatClampNeg))
noncomputable def v12_tradesWith (p : PM) (v1 : Int32) (v2 : Int32) (v3 : Int32) : PM := bv12_tradesWith v12_least v12_tradesWith_49 p v1 v2 v3
noncomputable def bg12_tradesWith (F244 : PM → Int32 → Int32 → Int32) (G244 : PM → Int32 → Int32 → Prop) (kg49 : PM → Int32 → Int32 → Int32 → Int32 → Int32 → Prop) (p : PM) (v1 : Int32) (v2 : Int32) (v3 : Int32) : Prop :=
  (inb v2 44) ∧ (
  (inb v1 44) ∧ (
  (G244 p (p.1 13 29 (v2).toNatClampNeg) (p.1 13 17 (v1).toNatClampNeg)) ∧ (
  let x1 : Int32 := (F244 p (p.1 13 29 (v2).toNatClampNeg) (p.1 13 17 (v1).toNatClampNeg))
  (inb v2 44) ∧ (
  let p2 : PM := pI p 13 29 (v2).toNatClampNeg (cn 0)
  (inb v1 44) ∧ (
  if (p2.1 15 4 (v1).toNatClampNeg) = 0 then (
    (inb v1 44) ∧ (
    kg49 p2 v1 v2 v3 x1 (p2.1 13 15 (v1).toNatClampNeg)))
  else (
    (inb v2 44) ∧ (
    kg49 p2 v1 v2 v3 x1 (p2.1 13 15 (v2).toNatClampNeg))))))))
noncomputable def g12_tradesWith (p : PM) (v1 : Int32) (v2 : Int32) (v3 : Int32) : Prop := bg12_tradesWith v12_least g12_least g12_tradesWith_49 p v1 v2 v3
def R249 : List Row := [(0, .aload_n 0, 1, 0, (0, 0, 0, 0, 0, 0)), (1, .aload_n 0, 1, 0, (0, 0, 0, 0, 0, 0)), (2, .getfield 117, 3, 0, (12, 38, 16, 2, 29, 0)), (5, .iload_n 2, 1, 0, (0, 0, 0, 0, 0, 0)), (6, .iaload, 1, 0, (13, 44, 0, 0, 0, 0)), (7, .aload_n 0, 1, 0, (0, 0, 0, 0, 0, 0)), (8, .getfield 75, 3, 0, (12, 24, 16, 2, 17, 0)), (11, .iload_n 1, 1, 0, (0, 0, 0, 0, 0, 0)), (12, .iaload, 1, 0, (13, 44, 0, 0, 0, 0)), (13, .invokevirtual 261, 3, 0, (0, 3, 0, 0, 1, 0)), (16, .istore 4, 2, 0, (0, 0, 0, 0, 0, 0)), (18, .aload_n 0, 1, 0, (0, 0, 0, 0, 0, 0)), (19, .getfield 117, 3, 0, (12, 38, 16, 2, 29, 0)), (22, .iload_n 2, 1, 0, (0, 0, 0, 0, 0, 0)), (23, .iconst 0, 1, 0, (0, 0, 0, 0, 0, 0)), (24, .iastore, 1, 0, (13, 44, 0, 0, 0, 0)), (25, .aload_n 0, 1, 0, (0, 0, 0, 0, 0, 0)), (26, .getfield 72, 3, 0, (12, 23, 18, 2, 4, 0)), (29, .iload_n 1, 1, 0, (0, 0, 0, 0, 0, 0)), (30, .baload, 1, 0, (15, 44, 0, 0, 0, 0)), (31, .ifCond .eq 12, 3, 0, (0, 0, 0, 0, 0, 0)), (34, .aload_n 0, 1, 0, (0, 0, 0, 0, 0, 0)), (35, .getfield 66, 3, 0, (12, 21, 16, 2, 15, 0)), (38, .iload_n 2, 1, 0, (0, 0, 0, 0, 0, 0)), (39, .iaload, 1, 0, (13, 44, 0, 0, 0, 0)), (40, .goto 9, 3, 0, (0, 0, 0, 0, 0, 0)), (43, .aload_n 0, 1, 0, (0, 0, 0, 0, 0, 0)), (44, .getfield 66, 3, 0, (12, 21, 16, 2, 15, 0)), (47, .iload_n 1, 1, 0, (0, 0, 0, 0, 0, 0)), (48, .iaload, 1, 0, (13, 44, 0, 0, 0, 0)), (49, .istore 5, 2, 1, (0, 0, 0, 0, 0, 0)), (51, .aload_n 0, 1, 0, (0, 0, 0, 0, 0, 0)), (52, .getfield 72, 3, 0, (12, 23, 18, 2, 4, 0)), (55, .iload_n 1, 1, 0, (0, 0, 0, 0, 0, 0)), (56, .baload, 1, 0, (15, 44, 0, 0, 0, 0)), (57, .ifCond .eq 12, 3, 0, (0, 0, 0, 0, 0, 0)), (60, .aload_n 0, 1, 0, (0, 0, 0, 0, 0, 0)), (61, .getfield 66, 3, 0, (12, 21, 16, 2, 15, 0)), (64, .iload_n 1, 1, 0, (0, 0, 0, 0, 0, 0)), (65, .iaload, 1, 0, (13, 44, 0, 0, 0, 0)), (66, .goto 9, 3, 0, (0, 0, 0, 0, 0, 0)), (69, .aload_n 0, 1, 0, (0, 0, 0, 0, 0, 0)), (70, .getfield 66, 3, 0, (12, 21, 16, 2, 15, 0)), (73, .iload_n 2, 1, 0, (0, 0, 0, 0, 0, 0)), (74, .iaload, 1, 0, (13, 44, 0, 0, 0, 0)), (75, .istore 6, 2, 0, (0, 0, 0, 0, 0, 0)), (77, .aload_n 0, 1, 0, (0, 0, 0, 0, 0, 0)), (78, .aload_n 0, 1, 0, (0, 0, 0, 0, 0, 0)), (79, .getfield 69, 3, 0, (12, 22, 16, 2, 16, 0)), (82, .iload_n 1, 1, 0, (0, 0, 0, 0, 0, 0)), (83, .iaload, 1, 0, (13, 44, 0, 0, 0, 0)), (84, .iload 6, 2, 0, (0, 0, 0, 0, 0, 0)), (86, .iload 5, 2, 0, (0, 0, 0, 0, 0, 0)), (88, .iload_n 3, 1, 0, (0, 0, 0, 0, 0, 0)), (89, .iload 4, 2, 0, (0, 0, 0, 0, 0, 0)), (91, .invokevirtual 269, 3, 0, (1, 6, 0, 0, 1, 0)), (94, .aload_n 0, 1, 0, (0, 0, 0, 0, 0, 0)), (95, .iload_n 1, 1, 0, (0, 0, 0, 0, 0, 0)), (96, .iload 4, 2, 0, (0, 0, 0, 0, 0, 0)), (98, .iconst 0, 1, 0, (0, 0, 0, 0, 0, 0)), (99, .invokevirtual 273, 3, 0, (2, 4, 0, 0, 1, 0)), (102, .aload_n 0, 1, 0, (0, 0, 0, 0, 0, 0)), (103, .iload_n 2, 1, 0, (0, 0, 0, 0, 0, 0)), (104, .iload 4, 2, 0, (0, 0, 0, 0, 0, 0)), (106, .iconst 1, 1, 0, (0, 0, 0, 0, 0, 1)), (107, .invokevirtual 273, 3, 0, (2, 4, 0, 0, 1, 0)), (110, .aload_n 0, 1, 0, (0, 0, 0, 0, 0, 0)), (111, .getfield 60, 3, 0, (12, 19, 18, 2, 3, 0)), (114, .iload_n 2, 1, 0, (0, 0, 0, 0, 0, 0)), (115, .baload, 1, 0, (15, 44, 0, 0, 0, 0)), (116, .ifCond .eq 32, 3, 0, (0, 0, 0, 0, 0, 0)), (119, .aload_n 0, 1, 0, (0, 0, 0, 0, 0, 0)), (120, .getfield 84, 3, 0, (12, 27, 16, 2, 19, 0)), (123, .iload_n 2, 1, 0, (0, 0, 0, 0, 0, 0)), (124, .iaload, 1, 0, (13, 44, 0, 0, 0, 0)), (125, .iconst 1, 1, 0, (0, 0, 0, 0, 0, 1)), (126, .if_icmp .ne 22, 3, 0, (0, 0, 0, 0, 0, 0)), (129, .aload_n 0, 1, 0, (0, 0, 0, 0, 0, 0)), (130, .getfield 93, 3, 0, (12, 30, 16, 2, 22, 0)), (133, .iload_n 2, 1, 0, (0, 0, 0, 0, 0, 0)), (134, .iaload, 1, 0, (13, 44, 0, 0, 0, 0)), (135, .ifCond .ne 13, 3, 0, (0, 0, 0, 0, 0, 0)), (138, .aload_n 0, 1, 0, (0, 0, 0, 0, 0, 0)), (139, .iload_n 2, 1, 0, (0, 0, 0, 0, 0, 0)), (140, .invokevirtual 217, 3, 0, (4, 2, 0, 0, 1, 0)), (143, .aload_n 0, 1, 0, (0, 0, 0, 0, 0, 0)), (144, .iload_n 2, 1, 0, (0, 0, 0, 0, 0, 0)), (145, .invokevirtual 221, 3, 0, (5, 2, 0, 0, 1, 0)), (148, .aload_n 0, 1, 0, (0, 0, 0, 0, 0, 0)), (149, .iload_n 1, 1, 0, (0, 0, 0, 0, 0, 0)), (150, .invokevirtual 277, 3, 0, (3, 2, 0, 0, 1, 0)), (153, .aload_n 0, 1, 0, (0, 0, 0, 0, 0, 0)), (154, .iload_n 2, 1, 0, (0, 0, 0, 0, 0, 0)), (155, .invokevirtual 277, 3, 0, (3, 2, 0, 0, 1, 0)), (158, .return_, 1, 0, (0, 0, 0, 0, 0, 0))]
set_option maxRecDepth 100000 in
theorem rk249 : R249.all (rok 2 249 0 [(244, [15, 0, 0]), (233, [15, 0, 0, 0, 0, 0]), (236, [15, 0, 0, 0]), (237, [15, 0]), (227, [15, 0]), (225, [15, 0])]) = true := by decide +kernel
set_option maxRecDepth 100000 in
theorem tab249 {F244 : PM → Int32 → Int32 → Int32} {G244 : PM → Int32 → Int32 → Prop} {F233 : PM → Int32 → Int32 → Int32 → Int32 → Int32 → PM} {G233 : PM → Int32 → Int32 → Int32 → Int32 → Int32 → Prop} {F236 : PM → Int32 → Int32 → Int32 → PM} {G236 : PM → Int32 → Int32 → Int32 → Prop} {F237 : PM → Int32 → PM} {G237 : PM → Int32 → Prop} {F227 : PM → Int32 → PM} {G227 : PM → Int32 → Prop} {F225 : PM → Int32 → PM} {G225 : PM → Int32 → Prop} : TabOK 2 249 0 [CC244 F244 G244, CC233 F233 G233, CC236 F236 G236, CC237 F237 G237, CC227 F227 G227, CC225 F225 G225] R249 := tab_ok (K := K249) rfl rfl (fun h => d249 h) rk249 (by decide +kernel)
set_option maxRecDepth 100000 in
theorem pc249 : cutpc [49] R249 = true := by decide +kernel
set_option maxRecDepth 100000 in
theorem r12_tradesWith_49 (F244 : PM → Int32 → Int32 → Int32) (G244 : PM → Int32 → Int32 → Prop) (o244 : CalOK 2 (CC244 F244 G244)) (F233 : PM → Int32 → Int32 → Int32 → Int32 → Int32 → PM) (G233 : PM → Int32 → Int32 → Int32 → Int32 → Int32 → Prop) (o233 : CalOK 2 (CC233 F233 G233)) (F236 : PM → Int32 → Int32 → Int32 → PM) (G236 : PM → Int32 → Int32 → Int32 → Prop) (o236 : CalOK 2 (CC236 F236 G236)) (F237 : PM → Int32 → PM) (G237 : PM → Int32 → Prop) (o237 : CalOK 2 (CC237 F237 G237)) (F227 : PM → Int32 → PM) (G227 : PM → Int32 → Prop) (o227 : CalOK 2 (CC227 F227 G227)) (F225 : PM → Int32 → PM) (G225 : PM → Int32 → Prop) (o225 : CalOK 2 (CC225 F225 G225)) : ∀ (p : PM) (v1 : Int32) (v2 : Int32) (v3 : Int32) (v4 : Int32) (s0 : Int32) (d5 d6 : ZV), Gr 2 p → bg12_tradesWith_49 F225 G225 F227 G227 F233 G233 F236 G236 F237 G237 p v1 v2 v3 v4 s0 → ZJ 2 249 49 [zR 12 1, zI v1, zI v2, zI v3, zI v4, d5, d6] [zI s0] p (hwV (bv12_tradesWith_49 F225 F227 F233 F236 F237 p v1 v2 v3 v4 s0)) := by
  intro p v1 v2 v3 v4 s0 d5 d6 hg H
  exact rwV (n := 3000) (q := 49) (la := [zR 12 1, zI v1, zI v2, zI v3, zI v4, d5, d6]) (sa := [zI s0]) (ks := [fun _ _ s => s]) (gs := [fun _ _ _ => False]) (fcons o244 (fcons o233 (fcons o236 (fcons o237 (fcons o227 (fcons o225 (fnil))))))) tab249 pc249 ⟨fun _ _ _ _ H => H.elim, trivial⟩ hg H
theorem t12_tradesWith_49 : ∀ (p : PM) (v1 : Int32) (v2 : Int32) (v3 : Int32) (v4 : Int32) (s0 : Int32) (d5 d6 : ZV), Gr 2 p → g12_tradesWith_49 p v1 v2 v3 v4 s0 → ZJ 2 249 49 [zR 12 1, zI v1, zI v2, zI v3, zI v4, d5, d6] [zI s0] p (hwV (v12_tradesWith_49 p v1 v2 v3 v4 s0)) := r12_tradesWith_49 v12_least g12_least ok244 v12_deals g12_deals ok233 v12_falls g12_falls ok236 v12_guards g12_guards ok237 v12_showsAnew g12_showsAnew ok227 v12_newTurn g12_newTurn ok225
set_option maxRecDepth 100000 in
theorem r12_tradesWith (F244 : PM → Int32 → Int32 → Int32) (G244 : PM → Int32 → Int32 → Prop) (o244 : CalOK 2 (CC244 F244 G244)) (F233 : PM → Int32 → Int32 → Int32 → Int32 → Int32 → PM) (G233 : PM → Int32 → Int32 → Int32 → Int32 → Int32 → Prop) (o233 : CalOK 2 (CC233 F233 G233)) (F236 : PM → Int32 → Int32 → Int32 → PM) (G236 : PM → Int32 → Int32 → Int32 → Prop) (o236 : CalOK 2 (CC236 F236 G236)) (F237 : PM → Int32 → PM) (G237 : PM → Int32 → Prop) (o237 : CalOK 2 (CC237 F237 G237)) (F227 : PM → Int32 → PM) (G227 : PM → Int32 → Prop) (o227 : CalOK 2 (CC227 F227 G227)) (F225 : PM → Int32 → PM) (G225 : PM → Int32 → Prop) (o225 : CalOK 2 (CC225 F225 G225)) (kv49 : PM → Int32 → Int32 → Int32 → Int32 → Int32 → PM) (kg49 : PM → Int32 → Int32 → Int32 → Int32 → Int32 → Prop) (hk49 : ∀ (p : PM) (v1 : Int32) (v2 : Int32) (v3 : Int32) (v4 : Int32) (s0 : Int32) (d5 d6 : ZV), Gr 2 p → kg49 p v1 v2 v3 v4 s0 → ZJ 2 249 49 [zR 12 1, zI v1, zI v2, zI v3, zI v4, d5, d6] [zI s0] p (hwV (kv49 p v1 v2 v3 v4 s0))) : ∀ (p : PM) (v1 : Int32) (v2 : Int32) (v3 : Int32), Gr 2 p → bg12_tradesWith F244 G244 kg49 p v1 v2 v3 → ZJ 2 249 0 [zR 12 1, zI v1, zI v2, zI v3, zJ, zJ, zJ] [] p (hwV (bv12_tradesWith F244 kv49 p v1 v2 v3)) := by
  intro p v1 v2 v3  hg H
  exact rwV (n := 3000) (q := 0) (la := [zR 12 1, zI v1, zI v2, zI v3, zJ, zJ, zJ]) (sa := []) (ks := [fun la sa s => kv49 s (ai la 1) (ai la 2) (ai la 3) (ai la 4) (ai sa 0)]) (gs := [fun la sa s => zsw (tc2 la [(112, 1), (0, 0), (0, 0), (0, 0), (0, 0), (2, 0), (2, 0)] && tc2 sa [(0, 0)]) False (kg49 s (ai la 1) (ai la 2) (ai la 3) (ai la 4) (ai sa 0))]) (fcons o244 (fcons o233 (fcons o236 (fcons o237 (fcons o227 (fcons o225 (fnil))))))) tab249 pc249 ⟨fun la sa s hg H => zcut H fun H => hk49 s (ai la 1) (ai la 2) (ai la 3) (ai la 4) (ai sa 0) (zld la 5) (zld la 6) hg H, trivial⟩ hg H
theorem t12_tradesWith : ∀ (p : PM) (v1 : Int32) (v2 : Int32) (v3 : Int32), Gr 2 p → g12_tradesWith p v1 v2 v3 → ZJ 2 249 0 [zR 12 1, zI v1, zI v2, zI v3, zJ, zJ, zJ] [] p (hwV (v12_tradesWith p v1 v2 v3)) := r12_tradesWith v12_least g12_least ok244 v12_deals g12_deals ok233 v12_falls g12_falls ok236 v12_guards g12_guards ok237 v12_showsAnew g12_showsAnew ok227 v12_newTurn g12_newTurn ok225 (v12_tradesWith_49) (g12_tradesWith_49) (t12_tradesWith_49)
def CC249 (F : PM → Int32 → Int32 → Int32 → PM) (G : PM → Int32 → Int32 → Int32 → Prop) : Cal := (249, [15, 0, 0, 0], 0, false, fun as p => (zJ, (F p (ai as 1) (ai as 2) (ai as 3))), fun as p => zsw (tc2 as [(112, 1), (0, 0), (0, 0), (0, 0)]) False (G p (ai as 1) (ai as 2) (ai as 3)))
set_option maxRecDepth 100000 in
theorem okr249 (F : PM → Int32 → Int32 → Int32 → PM) (G : PM → Int32 → Int32 → Int32 → Prop) (h : ∀ (p : PM) (v1 : Int32) (v2 : Int32) (v3 : Int32), Gr 2 p → G p v1 v2 v3 → ZJ 2 249 0 [zR 12 1, zI v1, zI v2, zI v3, zJ, zJ, zJ] [] p (hwV (F p v1 v2 v3))) : CalOK 2 (CC249 F G) := cal_ok (m := 7) (by unfold mL; rw [mX_249]) (fun as p hg H => h p (ai as 1) (ai as 2) (ai as 3) hg H)
theorem ok249 : CalOK 2 (CC249 v12_tradesWith g12_tradesWith) := okr249 v12_tradesWith g12_tradesWith t12_tradesWith
noncomputable def bv12_served_6 (p : PM) (kv6 : Int32 → Int32 → Int32 → Int32) (v1 : Int32) (v4 : Int32) (v5 : Int32) : Int32 :=
  if v5 < (cn 44) then (
    if 0 < (p.1 13 29 (v5).toNatClampNeg) then (
      if (p.1 13 6 (v1).toNatClampNeg) = (cn 2) then (
        if v4 < 0 then (
          kv6 v1 v5 (v5 + (cn 1)))
        else (
          if (p.1 13 41 (v4).toNatClampNeg) < (p.1 13 41 (v5).toNatClampNeg) then (
            kv6 v1 v5 (v5 + (cn 1)))
          else (
            if (p.1 13 41 (v5).toNatClampNeg) = (p.1 13 41 (v4).toNatClampNeg) then (
              if (p.1 13 42 (v5).toNatClampNeg) < (p.1 13 42 (v4).toNatClampNeg) then (
                kv6 v1 v5 (v5 + (cn 1)))
              else (
                kv6 v1 v4 (v5 + (cn 1))))
            else (
              kv6 v1 v4 (v5 + (cn 1))))))
      else (
        if v4 < 0 then (
          kv6 v1 v5 (v5 + (cn 1)))
        else (
          if (p.1 13 42 (v5).toNatClampNeg) < (p.1 13 42 (v4).toNatClampNeg) then (
            kv6 v1 v5 (v5 + (cn 1)))
          else (
            kv6 v1 v4 (v5 + (cn 1))))))
    else (
      if (p.1 13 6 (v1).toNatClampNeg) = (cn 2) then (
        kv6 v1 v4 (v5 + (cn 1)))
      else (
        kv6 v1 v4 (v5 + (cn 1)))))
  else (
    v4)
noncomputable def v12_served_6 (p : PM) (n : Nat) : Int32 → Int32 → Int32 → Int32 := Nat.rec (motive := fun _ => Int32 → Int32 → Int32 → Int32) (fun _ _ _ => 0) (fun _ ih => bv12_served_6 p ih) n
theorem ev12_served_6 (p : PM) (n : Nat) (v1 : Int32) (v4 : Int32) (v5 : Int32) : v12_served_6 p (n + 1) v1 v4 v5 = bv12_served_6 p (v12_served_6 p n) v1 v4 v5 := rfl
noncomputable def bg12_served_6 (p : PM) (kg6 : Int32 → Int32 → Int32 → Prop) (v1 : Int32) (v4 : Int32) (v5 : Int32) : Prop :=
  if v5 < (cn 44) then (
    (inb v5 44) ∧ (
    if 0 < (p.1 13 29 (v5).toNatClampNeg) then (
      (inb v1 6) ∧ (
      if (p.1 13 6 (v1).toNatClampNeg) = (cn 2) then (
        if v4 < 0 then (
          kg6 v1 v5 (v5 + (cn 1)))
        else (
          (inb v5 44) ∧ (
          (inb v4 44) ∧ (
          if (p.1 13 41 (v4).toNatClampNeg) < (p.1 13 41 (v5).toNatClampNeg) then (
            kg6 v1 v5 (v5 + (cn 1)))
          else (
            (inb v5 44) ∧ (
            (inb v4 44) ∧ (
            if (p.1 13 41 (v5).toNatClampNeg) = (p.1 13 41 (v4).toNatClampNeg) then (
              (inb v5 44) ∧ (
              (inb v4 44) ∧ (
              if (p.1 13 42 (v5).toNatClampNeg) < (p.1 13 42 (v4).toNatClampNeg) then (
                kg6 v1 v5 (v5 + (cn 1)))
              else (
                kg6 v1 v4 (v5 + (cn 1))))))
            else (
              kg6 v1 v4 (v5 + (cn 1))))))))))
      else (
        if v4 < 0 then (
          kg6 v1 v5 (v5 + (cn 1)))
        else (
          (inb v5 44) ∧ (
          (inb v4 44) ∧ (
          if (p.1 13 42 (v5).toNatClampNeg) < (p.1 13 42 (v4).toNatClampNeg) then (
            kg6 v1 v5 (v5 + (cn 1)))
          else (
            kg6 v1 v4 (v5 + (cn 1)))))))))
    else (
      (inb v1 6) ∧ (
      if (p.1 13 6 (v1).toNatClampNeg) = (cn 2) then (
        kg6 v1 v4 (v5 + (cn 1)))
      else (
        kg6 v1 v4 (v5 + (cn 1)))))))
  else (
    True)
noncomputable def g12_served_6 (p : PM) (n : Nat) : Int32 → Int32 → Int32 → Prop := Nat.rec (motive := fun _ => Int32 → Int32 → Int32 → Prop) (fun _ _ _ => False) (fun _ ih => bg12_served_6 p ih) n
theorem eg12_served_6 (p : PM) (n : Nat) (v1 : Int32) (v4 : Int32) (v5 : Int32) : g12_served_6 p (n + 1) v1 v4 v5 = bg12_served_6 p (g12_served_6 p n) v1 v4 v5 := rfl
noncomputable def bv12_served (p : PM) (kv6 : Int32 → Int32 → Int32 → Int32) (v1 : Int32) (v2 : Int32) (v3 : Int32) : Int32 :=
  kv6 v1 (cn (-1)) (cn 0)
noncomputable def v12_served (p : PM) (v1 : Int32) (v2 : Int32) (v3 : Int32) : Int32 := bv12_served p (v12_served_6 p FU) v1 v2 v3
noncomputable def bg12_served (p : PM) (kg6 : Int32 → Int32 → Int32 → Prop) (v1 : Int32) (v2 : Int32) (v3 : Int32) : Prop :=
  kg6 v1 (cn (-1)) (cn 0)
noncomputable def g12_served (p : PM) (v1 : Int32) (v2 : Int32) (v3 : Int32) : Prop := bg12_served p (g12_served_6 p FU) v1 v2 v3
def R250 : List Row := [(0, .iconst (-1), 1, 0, (0, 0, 0, 0, 0, -1)), (1, .istore 4, 2, 0, (0, 0, 0, 0, 0, 0)), (3, .iconst 0, 1, 0, (0, 0, 0, 0, 0, 0)), (4, .istore 5, 2, 0, (0, 0, 0, 0, 0, 0)), (6, .iload 5, 2, 1, (0, 0, 0, 0, 0, 0)), (8, .bipush 44, 2, 0, (0, 0, 0, 0, 0, 44)), (10, .if_icmp .ge 135, 3, 0, (0, 0, 0, 0, 0, 0)), (13, .aload_n 0, 1, 0, (0, 0, 0, 0, 0, 0)), (14, .getfield 117, 3, 0, (12, 38, 16, 2, 29, 0)), (17, .iload 5, 2, 0, (0, 0, 0, 0, 0, 0)), (19, .iaload, 1, 0, (13, 44, 0, 0, 0, 0)), (20, .ifCond .le 7, 3, 0, (0, 0, 0, 0, 0, 0)), (23, .iconst 1, 1, 0, (0, 0, 0, 0, 0, 1)), (24, .goto 4, 3, 0, (0, 0, 0, 0, 0, 0)), (27, .iconst 0, 1, 0, (0, 0, 0, 0, 0, 0)), (28, .istore 6, 2, 0, (0, 0, 0, 0, 0, 0)), (30, .aload_n 0, 1, 0, (0, 0, 0, 0, 0, 0)), (31, .getfield 33, 3, 0, (12, 8, 16, 2, 6, 0)), (34, .iload_n 1, 1, 0, (0, 0, 0, 0, 0, 0)), (35, .iaload, 1, 0, (13, 6, 0, 0, 0, 0)), (36, .iconst 2, 1, 0, (0, 0, 0, 0, 0, 2)), (37, .if_icmp .ne 7, 3, 0, (0, 0, 0, 0, 0, 0)), (40, .iconst 1, 1, 0, (0, 0, 0, 0, 0, 1)), (41, .goto 4, 3, 0, (0, 0, 0, 0, 0, 0)), (44, .iconst 0, 1, 0, (0, 0, 0, 0, 0, 0)), (45, .istore 7, 2, 0, (0, 0, 0, 0, 0, 0)), (47, .iload 6, 2, 0, (0, 0, 0, 0, 0, 0)), (49, .ifCond .eq 73, 3, 0, (0, 0, 0, 0, 0, 0)), (52, .iload 4, 2, 0, (0, 0, 0, 0, 0, 0)), (54, .ifCond .lt 64, 3, 0, (0, 0, 0, 0, 0, 0)), (57, .iload 7, 2, 0, (0, 0, 0, 0, 0, 0)), (59, .ifCond .eq 20, 3, 0, (0, 0, 0, 0, 0, 0)), (62, .aload_n 0, 1, 0, (0, 0, 0, 0, 0, 0)), (63, .getfield 165, 3, 0, (12, 62, 16, 2, 41, 0)), (66, .iload 5, 2, 0, (0, 0, 0, 0, 0, 0)), (68, .iaload, 1, 0, (13, 44, 0, 0, 0, 0)), (69, .aload_n 0, 1, 0, (0, 0, 0, 0, 0, 0)), (70, .getfield 165, 3, 0, (12, 62, 16, 2, 41, 0)), (73, .iload 4, 2, 0, (0, 0, 0, 0, 0, 0)), (75, .iaload, 1, 0, (13, 44, 0, 0, 0, 0)), (76, .if_icmp .gt 42, 3, 0, (0, 0, 0, 0, 0, 0)), (79, .iload 7, 2, 0, (0, 0, 0, 0, 0, 0)), (81, .ifCond .eq 20, 3, 0, (0, 0, 0, 0, 0, 0)), (84, .aload_n 0, 1, 0, (0, 0, 0, 0, 0, 0)), (85, .getfield 165, 3, 0, (12, 62, 16, 2, 41, 0)), (88, .iload 5, 2, 0, (0, 0, 0, 0, 0, 0)), (90, .iaload, 1, 0, (13, 44, 0, 0, 0, 0)), (91, .aload_n 0, 1, 0, (0, 0, 0, 0, 0, 0)), (92, .getfield 165, 3, 0, (12, 62, 16, 2, 41, 0)), (95, .iload 4, 2, 0, (0, 0, 0, 0, 0, 0)), (97, .iaload, 1, 0, (13, 44, 0, 0, 0, 0)), (98, .if_icmp .ne 24, 3, 0, (0, 0, 0, 0, 0, 0)), (101, .aload_n 0, 1, 0, (0, 0, 0, 0, 0, 0)), (102, .getfield 168, 3, 0, (12, 63, 16, 2, 42, 0)), (105, .iload 5, 2, 0, (0, 0, 0, 0, 0, 0)), (107, .iaload, 1, 0, (13, 44, 0, 0, 0, 0)), (108, .aload_n 0, 1, 0, (0, 0, 0, 0, 0, 0)), (109, .getfield 168, 3, 0, (12, 63, 16, 2, 42, 0)), (112, .iload 4, 2, 0, (0, 0, 0, 0, 0, 0)), (114, .iaload, 1, 0, (13, 44, 0, 0, 0, 0)), (115, .if_icmp .ge 7, 3, 0, (0, 0, 0, 0, 0, 0)), (118, .iconst 1, 1, 0, (0, 0, 0, 0, 0, 1)), (119, .goto 4, 3, 0, (0, 0, 0, 0, 0, 0)), (122, .iconst 0, 1, 0, (0, 0, 0, 0, 0, 0)), (123, .istore 8, 2, 0, (0, 0, 0, 0, 0, 0)), (125, .iload 8, 2, 0, (0, 0, 0, 0, 0, 0)), (127, .ifCond .eq 8, 3, 0, (0, 0, 0, 0, 0, 0)), (130, .iload 5, 2, 0, (0, 0, 0, 0, 0, 0)), (132, .goto 5, 3, 0, (0, 0, 0, 0, 0, 0)), (135, .iload 4, 2, 0, (0, 0, 0, 0, 0, 0)), (137, .istore 4, 2, 0, (0, 0, 0, 0, 0, 0)), (139, .iinc 5 1, 3, 0, (0, 0, 0, 0, 0, 1)), (142, .goto (-136), 3, 0, (0, 0, 0, 0, 0, 0)), (145, .iload 4, 2, 0, (0, 0, 0, 0, 0, 0)), (147, .ireturn, 1, 0, (0, 0, 0, 0, 0, 0))]
set_option maxRecDepth 100000 in
theorem rk250 : R250.all (rok 2 250 1 []) = true := by decide +kernel
set_option maxRecDepth 100000 in
theorem tab250 : TabOK 2 250 1 [] R250 := tab_ok (K := K250) rfl rfl (fun h => d250 h) rk250 (by decide +kernel)
set_option maxRecDepth 100000 in
theorem pc250 : cutpc [6] R250 = true := by decide +kernel
set_option maxRecDepth 100000 in
theorem r12_served_6 (p : PM) (hg : Gr 2 p) (kv6 : Int32 → Int32 → Int32 → Int32) (kg6 : Int32 → Int32 → Int32 → Prop) (hk6 : ∀ (v1 : Int32) (v4 : Int32) (v5 : Int32) (d2 d3 d6 d7 d8 : ZV), kg6 v1 v4 v5 → ZJ 2 250 6 [zR 12 1, zI v1, d2, d3, zI v4, zI v5, d6, d7, d8] [] p (hoI p (kv6 v1 v4 v5))) : ∀ (v1 : Int32) (v4 : Int32) (v5 : Int32) (d2 d3 d6 d7 d8 : ZV), bg12_served_6 p kg6 v1 v4 v5 → ZJ 2 250 6 [zR 12 1, zI v1, d2, d3, zI v4, zI v5, d6, d7, d8] [] p (hoI p (bv12_served_6 p kv6 v1 v4 v5)) := by
  intro v1 v4 v5 d2 d3 d6 d7 d8 H
  exact roI (n := 3000) (q := 6) (la := [zR 12 1, zI v1, d2, d3, zI v4, zI v5, d6, d7, d8]) (sa := []) (ks := [fun la sa _ => kv6 (ai la 1) (ai la 4) (ai la 5)]) (gs := [fun la sa _ => zsw (tc2 la [(112, 1), (0, 0), (2, 0), (2, 0), (0, 0), (0, 0), (2, 0), (2, 0), (2, 0)] && tc2 sa []) False (kg6 (ai la 1) (ai la 4) (ai la 5))]) (fnil) tab250 pc250 ⟨fun la sa s hg H => zcut H fun H => hk6 (ai la 1) (ai la 4) (ai la 5) (zld la 2) (zld la 3) (zld la 6) (zld la 7) (zld la 8) H, trivial⟩ hg H
theorem t12_served_6 (p : PM) (hg : Gr 2 p) : ∀ (n : Nat), ∀ (v1 : Int32) (v4 : Int32) (v5 : Int32) (d2 d3 d6 d7 d8 : ZV), g12_served_6 p n v1 v4 v5 → ZJ 2 250 6 [zR 12 1, zI v1, d2, d3, zI v4, zI v5, d6, d7, d8] [] p (hoI p (v12_served_6 p n v1 v4 v5)) := by
  intro n
  induction n with
  | zero =>
    intro v1 v4 v5 d2 d3 d6 d7 d8 H
    exact H.elim
  | succ n ih => exact r12_served_6 p hg (v12_served_6 p n) (g12_served_6 p n) ih
set_option maxRecDepth 100000 in
theorem r12_served (p : PM) (hg : Gr 2 p) (kv6 : Int32 → Int32 → Int32 → Int32) (kg6 : Int32 → Int32 → Int32 → Prop) (hk6 : ∀ (v1 : Int32) (v4 : Int32) (v5 : Int32) (d2 d3 d6 d7 d8 : ZV), kg6 v1 v4 v5 → ZJ 2 250 6 [zR 12 1, zI v1, d2, d3, zI v4, zI v5, d6, d7, d8] [] p (hoI p (kv6 v1 v4 v5))) : ∀ (v1 : Int32) (v2 : Int32) (v3 : Int32), bg12_served p kg6 v1 v2 v3 → ZJ 2 250 0 [zR 12 1, zI v1, zI v2, zI v3, zJ, zJ, zJ, zJ, zJ] [] p (hoI p (bv12_served p kv6 v1 v2 v3)) := by
  intro v1 v2 v3  H
  exact roI (n := 3000) (q := 0) (la := [zR 12 1, zI v1, zI v2, zI v3, zJ, zJ, zJ, zJ, zJ]) (sa := []) (ks := [fun la sa _ => kv6 (ai la 1) (ai la 4) (ai la 5)]) (gs := [fun la sa _ => zsw (tc2 la [(112, 1), (0, 0), (2, 0), (2, 0), (0, 0), (0, 0), (2, 0), (2, 0), (2, 0)] && tc2 sa []) False (kg6 (ai la 1) (ai la 4) (ai la 5))]) (fnil) tab250 pc250 ⟨fun la sa s hg H => zcut H fun H => hk6 (ai la 1) (ai la 4) (ai la 5) (zld la 2) (zld la 3) (zld la 6) (zld la 7) (zld la 8) H, trivial⟩ hg H
theorem t12_served (p : PM) (hg : Gr 2 p) : ∀ (v1 : Int32) (v2 : Int32) (v3 : Int32), g12_served p v1 v2 v3 → ZJ 2 250 0 [zR 12 1, zI v1, zI v2, zI v3, zJ, zJ, zJ, zJ, zJ] [] p (hoI p (v12_served p v1 v2 v3)) := r12_served p hg (v12_served_6 p FU) (g12_served_6 p FU) (t12_served_6 p hg FU)
def CC250 (F : PM → Int32 → Int32 → Int32 → Int32) (G : PM → Int32 → Int32 → Int32 → Prop) : Cal := (250, [15, 0, 0, 0], 1, true, fun as p => (zI (F p (ai as 1) (ai as 2) (ai as 3)), p), fun as p => zsw (tc2 as [(112, 1), (0, 0), (0, 0), (0, 0)]) False (G p (ai as 1) (ai as 2) (ai as 3)))
set_option maxRecDepth 100000 in
theorem okr250 (F : PM → Int32 → Int32 → Int32 → Int32) (G : PM → Int32 → Int32 → Int32 → Prop) (h : ∀ (p : PM) (v1 : Int32) (v2 : Int32) (v3 : Int32), Gr 2 p → G p v1 v2 v3 → ZJ 2 250 0 [zR 12 1, zI v1, zI v2, zI v3, zJ, zJ, zJ, zJ, zJ] [] p (hoI p (F p v1 v2 v3))) : CalOK 2 (CC250 F G) := cal_ok (m := 9) (by unfold mL; rw [mX_250]) (fun as p hg H => h p (ai as 1) (ai as 2) (ai as 3) hg H)
theorem ok250 : CalOK 2 (CC250 v12_served g12_served) := okr250 v12_served g12_served (fun p v1 v2 v3 hg H => t12_served p hg v1 v2 v3 H)
noncomputable def bv12_servesAll_147 (F249 : PM → Int32 → Int32 → Int32 → PM) (F250 : PM → Int32 → Int32 → Int32 → Int32) (kv147 : PM → Int32 → Int32 → Int32 → Int32 → Int32 → PM) (p : PM) (v1 : Int32) (v2 : Int32) (v3 : Int32) (v4 : Int32) (v5 : Int32) : PM :=
  if v5 < 0 then (
    p)
  else (
    if (p.1 15 3 (v5).toNatClampNeg) = 0 then (
      let p1 : PM := pI p 13 29 (v5).toNatClampNeg (cn 0)
      kv147 p1 v1 v2 v3 v4 (F250 p1 v3 v4 v2))
    else (
      if (p.1 15 3 (v1).toNatClampNeg) = 0 then (
        let p2 : PM := pI p 13 29 (v5).toNatClampNeg (cn 0)
        kv147 p2 v1 v2 v3 v4 (F250 p2 v3 v4 v2))
      else (
        let p3 : PM := F249 p v1 v5 v2
        let p4 : PM := pI p3 13 29 (v5).toNatClampNeg (cn 0)
        kv147 p4 v1 v2 v3 v4 (F250 p4 v3 v4 v2))))
noncomputable def v12_servesAll_147 (n : Nat) : PM → Int32 → Int32 → Int32 → Int32 → Int32 → PM := Nat.rec (motive := fun _ => PM → Int32 → Int32 → Int32 → Int32 → Int32 → PM) (fun p _ _ _ _ _ => p) (fun _ ih => bv12_servesAll_147 v12_tradesWith v12_served ih) n
theorem ev12_servesAll_147 (n : Nat) (p : PM) (v1 : Int32) (v2 : Int32) (v3 : Int32) (v4 : Int32) (v5 : Int32) : v12_servesAll_147 (n + 1) p v1 v2 v3 v4 v5 = bv12_servesAll_147 v12_tradesWith v12_served (v12_servesAll_147 n) p v1 v2 v3 v4 v5 := rfl
noncomputable def bg12_servesAll_147 (F249 : PM → Int32 → Int32 → Int32 → PM) (G249 : PM → Int32 → Int32 → Int32 → Prop) (F250 : PM → Int32 → Int32 → Int32 → Int32) (G250 : PM → Int32 → Int32 → Int32 → Prop) (kg147 : PM → Int32 → Int32 → Int32 → Int32 → Int32 → Prop) (p : PM) (v1 : Int32) (v2 : Int32) (v3 : Int32) (v4 : Int32) (v5 : Int32) : Prop :=
  if v5 < 0 then (
    True)
  else (
    (inb v5 44) ∧ (
    if (p.1 15 3 (v5).toNatClampNeg) = 0 then (
      (inb v5 44) ∧ (
      let p1 : PM := pI p 13 29 (v5).toNatClampNeg (cn 0)
      (G250 p1 v3 v4 v2) ∧ (
      kg147 p1 v1 v2 v3 v4 (F250 p1 v3 v4 v2))))
    else (
      (inb v1 44) ∧ (
      if (p.1 15 3 (v1).toNatClampNeg) = 0 then (
        (inb v5 44) ∧ (
        let p2 : PM := pI p 13 29 (v5).toNatClampNeg (cn 0)
        (G250 p2 v3 v4 v2) ∧ (
        kg147 p2 v1 v2 v3 v4 (F250 p2 v3 v4 v2))))
      else (
        (G249 p v1 v5 v2) ∧ (
        let p3 : PM := F249 p v1 v5 v2
        (inb v5 44) ∧ (
        let p4 : PM := pI p3 13 29 (v5).toNatClampNeg (cn 0)
        (G250 p4 v3 v4 v2) ∧ (
        kg147 p4 v1 v2 v3 v4 (F250 p4 v3 v4 v2)))))))))
noncomputable def g12_servesAll_147 (n : Nat) : PM → Int32 → Int32 → Int32 → Int32 → Int32 → Prop := Nat.rec (motive := fun _ => PM → Int32 → Int32 → Int32 → Int32 → Int32 → Prop) (fun _ _ _ _ _ _ => False) (fun _ ih => bg12_servesAll_147 v12_tradesWith g12_tradesWith v12_served g12_served ih) n
theorem eg12_servesAll_147 (n : Nat) (p : PM) (v1 : Int32) (v2 : Int32) (v3 : Int32) (v4 : Int32) (v5 : Int32) : g12_servesAll_147 (n + 1) p v1 v2 v3 v4 v5 = bg12_servesAll_147 v12_tradesWith g12_tradesWith v12_served g12_served (g12_servesAll_147 n) p v1 v2 v3 v4 v5 := rfl
noncomputable def bv12_servesAll_30 (F226 : PM → Int32 → Int32) (F245 : PM → Int32 → Int32 → Int32 → Int32 → PM) (F246 : PM → Int32 → Int32 → Int32 → Int32 → PM) (F248 : PM → Int32 → Int32 → Int32 → Int32 → PM) (F250 : PM → Int32 → Int32 → Int32 → Int32) (kv30 : PM → Int32 → Int32 → Int32 → Int32 → Int32 → PM) (kv147 : PM → Int32 → Int32 → Int32 → Int32 → Int32 → PM) (p : PM) (v1 : Int32) (v2 : Int32) (v3 : Int32) (v4 : Int32) (v5 : Int32) : PM :=
  if v5 < (cn 44) then (
    let p4 : PM := pI p 13 41 (v5).toNatClampNeg (F226 p v5)
    let p5 : PM := pI p4 13 42 (v5).toNatClampNeg (p4.1 13 23 (v5).toNatClampNeg)
    kv30 p5 v1 v2 v3 v4 (v5 + (cn 1)))
  else (
    if (p.1 13 6 (v3).toNatClampNeg) = 0 then (
      let p3 : PM := F245 p v3 v4 v2 (p.1 13 17 (v1).toNatClampNeg)
      kv147 p3 v1 v2 v3 v4 (F250 p3 v3 v4 v2))
    else (
      if (p.1 13 6 (v3).toNatClampNeg) = (cn 2) then (
        let p2 : PM := F246 p v3 v4 v2 (p.1 13 17 (v1).toNatClampNeg)
        kv147 p2 v1 v2 v3 v4 (F250 p2 v3 v4 v2))
      else (
        let p1 : PM := F248 p v3 v4 v2 (p.1 13 17 (v1).toNatClampNeg)
        kv147 p1 v1 v2 v3 v4 (F250 p1 v3 v4 v2))))
noncomputable def v12_servesAll_30 (n : Nat) : PM → Int32 → Int32 → Int32 → Int32 → Int32 → PM := Nat.rec (motive := fun _ => PM → Int32 → Int32 → Int32 → Int32 → Int32 → PM) (fun p _ _ _ _ _ => p) (fun _ ih => bv12_servesAll_30 v12_showsNow v12_sharesByTurns v12_sharesBySize v12_sharesOut v12_served ih (v12_servesAll_147 FU)) n
theorem ev12_servesAll_30 (n : Nat) (p : PM) (v1 : Int32) (v2 : Int32) (v3 : Int32) (v4 : Int32) (v5 : Int32) : v12_servesAll_30 (n + 1) p v1 v2 v3 v4 v5 = bv12_servesAll_30 v12_showsNow v12_sharesByTurns v12_sharesBySize v12_sharesOut v12_served (v12_servesAll_30 n) (v12_servesAll_147 FU) p v1 v2 v3 v4 v5 := rfl
noncomputable def bg12_servesAll_30 (F226 : PM → Int32 → Int32) (G226 : PM → Int32 → Prop) (F245 : PM → Int32 → Int32 → Int32 → Int32 → PM) (G245 : PM → Int32 → Int32 → Int32 → Int32 → Prop) (F246 : PM → Int32 → Int32 → Int32 → Int32 → PM) (G246 : PM → Int32 → Int32 → Int32 → Int32 → Prop) (F248 : PM → Int32 → Int32 → Int32 → Int32 → PM) (G248 : PM → Int32 → Int32 → Int32 → Int32 → Prop) (F250 : PM → Int32 → Int32 → Int32 → Int32) (G250 : PM → Int32 → Int32 → Int32 → Prop) (kg30 : PM → Int32 → Int32 → Int32 → Int32 → Int32 → Prop) (kg147 : PM → Int32 → Int32 → Int32 → Int32 → Int32 → Prop) (p : PM) (v1 : Int32) (v2 : Int32) (v3 : Int32) (v4 : Int32) (v5 : Int32) : Prop :=
  if v5 < (cn 44) then (
    (G226 p v5) ∧ (
    (inb v5 44) ∧ (
    let p4 : PM := pI p 13 41 (v5).toNatClampNeg (F226 p v5)
    (inb v5 44) ∧ (
    (inb v5 44) ∧ (
    let p5 : PM := pI p4 13 42 (v5).toNatClampNeg (p4.1 13 23 (v5).toNatClampNeg)
    kg30 p5 v1 v2 v3 v4 (v5 + (cn 1)))))))
  else (
    (inb v3 6) ∧ (
    if (p.1 13 6 (v3).toNatClampNeg) = 0 then (
      (inb v1 44) ∧ (
      (G245 p v3 v4 v2 (p.1 13 17 (v1).toNatClampNeg)) ∧ (
      let p3 : PM := F245 p v3 v4 v2 (p.1 13 17 (v1).toNatClampNeg)
      (G250 p3 v3 v4 v2) ∧ (
      kg147 p3 v1 v2 v3 v4 (F250 p3 v3 v4 v2)))))
    else (
      (inb v3 6) ∧ (
      if (p.1 13 6 (v3).toNatClampNeg) = (cn 2) then (
        (inb v1 44) ∧ (
        (G246 p v3 v4 v2 (p.1 13 17 (v1).toNatClampNeg)) ∧ (
        let p2 : PM := F246 p v3 v4 v2 (p.1 13 17 (v1).toNatClampNeg)
        (G250 p2 v3 v4 v2) ∧ (
        kg147 p2 v1 v2 v3 v4 (F250 p2 v3 v4 v2)))))
      else (
        (inb v1 44) ∧ (
        (G248 p v3 v4 v2 (p.1 13 17 (v1).toNatClampNeg)) ∧ (
        let p1 : PM := F248 p v3 v4 v2 (p.1 13 17 (v1).toNatClampNeg)
        (G250 p1 v3 v4 v2) ∧ (
        kg147 p1 v1 v2 v3 v4 (F250 p1 v3 v4 v2)))))))))
noncomputable def g12_servesAll_30 (n : Nat) : PM → Int32 → Int32 → Int32 → Int32 → Int32 → Prop := Nat.rec (motive := fun _ => PM → Int32 → Int32 → Int32 → Int32 → Int32 → Prop) (fun _ _ _ _ _ _ => False) (fun _ ih => bg12_servesAll_30 v12_showsNow g12_showsNow v12_sharesByTurns g12_sharesByTurns v12_sharesBySize g12_sharesBySize v12_sharesOut g12_sharesOut v12_served g12_served ih (g12_servesAll_147 FU)) n
theorem eg12_servesAll_30 (n : Nat) (p : PM) (v1 : Int32) (v2 : Int32) (v3 : Int32) (v4 : Int32) (v5 : Int32) : g12_servesAll_30 (n + 1) p v1 v2 v3 v4 v5 = bg12_servesAll_30 v12_showsNow g12_showsNow v12_sharesByTurns g12_sharesByTurns v12_sharesBySize g12_sharesBySize v12_sharesOut g12_sharesOut v12_served g12_served (g12_servesAll_30 n) (g12_servesAll_147 FU) p v1 v2 v3 v4 v5 := rfl
noncomputable def bv12_servesAll (F243 : PM → PM) (kv30 : PM → Int32 → Int32 → Int32 → Int32 → Int32 → PM) (p : PM) (v1 : Int32) (v2 : Int32) : PM :=
  let x1 : Int32 := (p.1 13 16 (v1).toNatClampNeg)
  if (p.1 15 4 (v1).toNatClampNeg) = 0 then (
    let p3 : PM := F243 p
    kv30 p3 v1 v2 x1 (cn 1) (cn 0))
  else (
    let p2 : PM := F243 p
    kv30 p2 v1 v2 x1 (cn 0) (cn 0))
noncomputable def v12_servesAll (p : PM) (v1 : Int32) (v2 : Int32) : PM := bv12_servesAll v12_clearsGets (v12_servesAll_30 FU) p v1 v2
noncomputable def bg12_servesAll (F243 : PM → PM) (G243 : PM → Prop) (kg30 : PM → Int32 → Int32 → Int32 → Int32 → Int32 → Prop) (p : PM) (v1 : Int32) (v2 : Int32) : Prop :=
  (inb v1 44) ∧ (
  let x1 : Int32 := (p.1 13 16 (v1).toNatClampNeg)
  (inb v1 44) ∧ (
  if (p.1 15 4 (v1).toNatClampNeg) = 0 then (
    (G243 p) ∧ (
    let p3 : PM := F243 p
    kg30 p3 v1 v2 x1 (cn 1) (cn 0)))
  else (
    (G243 p) ∧ (
    let p2 : PM := F243 p
    kg30 p2 v1 v2 x1 (cn 0) (cn 0)))))
noncomputable def g12_servesAll (p : PM) (v1 : Int32) (v2 : Int32) : Prop := bg12_servesAll v12_clearsGets g12_clearsGets (g12_servesAll_30 FU) p v1 v2
def R251 : List Row := [(0, .aload_n 0, 1, 0, (0, 0, 0, 0, 0, 0)), (1, .getfield 69, 3, 0, (12, 22, 16, 2, 16, 0)), (4, .iload_n 1, 1, 0, (0, 0, 0, 0, 0, 0)), (5, .iaload, 1, 0, (13, 44, 0, 0, 0, 0)), (6, .istore_n 3, 1, 0, (0, 0, 0, 0, 0, 0)), (7, .aload_n 0, 1, 0, (0, 0, 0, 0, 0, 0)), (8, .getfield 72, 3, 0, (12, 23, 18, 2, 4, 0)), (11, .iload_n 1, 1, 0, (0, 0, 0, 0, 0, 0)), (12, .baload, 1, 0, (15, 44, 0, 0, 0, 0)), (13, .ifCond .ne 7, 3, 0, (0, 0, 0, 0, 0, 0)), (16, .iconst 1, 1, 0, (0, 0, 0, 0, 0, 1)), (17, .goto 4, 3, 0, (0, 0, 0, 0, 0, 0)), (20, .iconst 0, 1, 0, (0, 0, 0, 0, 0, 0)), (21, .istore 4, 2, 0, (0, 0, 0, 0, 0, 0)), (23, .aload_n 0, 1, 0, (0, 0, 0, 0, 0, 0)), (24, .invokevirtual 280, 3, 0, (0, 1, 0, 0, 1, 0)), (27, .iconst 0, 1, 0, (0, 0, 0, 0, 0, 0)), (28, .istore 5, 2, 0, (0, 0, 0, 0, 0, 0)), (30, .iload 5, 2, 1, (0, 0, 0, 0, 0, 0)), (32, .bipush 44, 2, 0, (0, 0, 0, 0, 0, 44)), (34, .if_icmp .ge 36, 3, 0, (0, 0, 0, 0, 0, 0)), (37, .aload_n 0, 1, 0, (0, 0, 0, 0, 0, 0)), (38, .getfield 165, 3, 0, (12, 62, 16, 2, 41, 0)), (41, .iload 5, 2, 0, (0, 0, 0, 0, 0, 0)), (43, .aload_n 0, 1, 0, (0, 0, 0, 0, 0, 0)), (44, .iload 5, 2, 0, (0, 0, 0, 0, 0, 0)), (46, .invokevirtual 258, 3, 0, (5, 2, 0, 0, 1, 0)), (49, .iastore, 1, 0, (13, 44, 0, 0, 0, 0)), (50, .aload_n 0, 1, 0, (0, 0, 0, 0, 0, 0)), (51, .getfield 168, 3, 0, (12, 63, 16, 2, 42, 0)), (54, .iload 5, 2, 0, (0, 0, 0, 0, 0, 0)), (56, .aload_n 0, 1, 0, (0, 0, 0, 0, 0, 0)), (57, .getfield 96, 3, 0, (12, 31, 16, 2, 23, 0)), (60, .iload 5, 2, 0, (0, 0, 0, 0, 0, 0)), (62, .iaload, 1, 0, (13, 44, 0, 0, 0, 0)), (63, .iastore, 1, 0, (13, 44, 0, 0, 0, 0)), (64, .iinc 5 1, 3, 0, (0, 0, 0, 0, 0, 1)), (67, .goto (-37), 3, 0, (0, 0, 0, 0, 0, 0)), (70, .aload_n 0, 1, 0, (0, 0, 0, 0, 0, 0)), (71, .getfield 33, 3, 0, (12, 8, 16, 2, 6, 0)), (74, .iload_n 3, 1, 0, (0, 0, 0, 0, 0, 0)), (75, .iaload, 1, 0, (13, 6, 0, 0, 0, 0)), (76, .ifCond .ne 20, 3, 0, (0, 0, 0, 0, 0, 0)), (79, .aload_n 0, 1, 0, (0, 0, 0, 0, 0, 0)), (80, .iload_n 3, 1, 0, (0, 0, 0, 0, 0, 0)), (81, .iload 4, 2, 0, (0, 0, 0, 0, 0, 0)), (83, .iload_n 2, 1, 0, (0, 0, 0, 0, 0, 0)), (84, .aload_n 0, 1, 0, (0, 0, 0, 0, 0, 0)), (85, .getfield 75, 3, 0, (12, 24, 16, 2, 17, 0)), (88, .iload_n 1, 1, 0, (0, 0, 0, 0, 0, 0)), (89, .iaload, 1, 0, (13, 44, 0, 0, 0, 0)), (90, .invokevirtual 283, 3, 0, (4, 5, 0, 0, 1, 0)), (93, .goto 44, 3, 0, (0, 0, 0, 0, 0, 0)), (96, .aload_n 0, 1, 0, (0, 0, 0, 0, 0, 0)), (97, .getfield 33, 3, 0, (12, 8, 16, 2, 6, 0)), (100, .iload_n 3, 1, 0, (0, 0, 0, 0, 0, 0)), (101, .iaload, 1, 0, (13, 6, 0, 0, 0, 0)), (102, .iconst 2, 1, 0, (0, 0, 0, 0, 0, 2)), (103, .if_icmp .ne 20, 3, 0, (0, 0, 0, 0, 0, 0)), (106, .aload_n 0, 1, 0, (0, 0, 0, 0, 0, 0)), (107, .iload_n 3, 1, 0, (0, 0, 0, 0, 0, 0)), (108, .iload 4, 2, 0, (0, 0, 0, 0, 0, 0)), (110, .iload_n 2, 1, 0, (0, 0, 0, 0, 0, 0)), (111, .aload_n 0, 1, 0, (0, 0, 0, 0, 0, 0)), (112, .getfield 75, 3, 0, (12, 24, 16, 2, 17, 0)), (115, .iload_n 1, 1, 0, (0, 0, 0, 0, 0, 0)), (116, .iaload, 1, 0, (13, 44, 0, 0, 0, 0)), (117, .invokevirtual 287, 3, 0, (3, 5, 0, 0, 1, 0)), (120, .goto 17, 3, 0, (0, 0, 0, 0, 0, 0)), (123, .aload_n 0, 1, 0, (0, 0, 0, 0, 0, 0)), (124, .iload_n 3, 1, 0, (0, 0, 0, 0, 0, 0)), (125, .iload 4, 2, 0, (0, 0, 0, 0, 0, 0)), (127, .iload_n 2, 1, 0, (0, 0, 0, 0, 0, 0)), (128, .aload_n 0, 1, 0, (0, 0, 0, 0, 0, 0)), (129, .getfield 75, 3, 0, (12, 24, 16, 2, 17, 0)), (132, .iload_n 1, 1, 0, (0, 0, 0, 0, 0, 0)), (133, .iaload, 1, 0, (13, 44, 0, 0, 0, 0)), (134, .invokevirtual 290, 3, 0, (1, 5, 0, 0, 1, 0)), (137, .aload_n 0, 1, 0, (0, 0, 0, 0, 0, 0)), (138, .iload_n 3, 1, 0, (0, 0, 0, 0, 0, 0)), (139, .iload 4, 2, 0, (0, 0, 0, 0, 0, 0)), (141, .iload_n 2, 1, 0, (0, 0, 0, 0, 0, 0)), (142, .invokevirtual 293, 3, 0, (2, 4, 0, 0, 1, 0)), (145, .istore 5, 2, 0, (0, 0, 0, 0, 0, 0)), (147, .iload 5, 2, 2, (0, 0, 0, 0, 0, 0)), (149, .ifCond .lt 51, 3, 0, (0, 0, 0, 0, 0, 0)), (152, .aload_n 0, 1, 0, (0, 0, 0, 0, 0, 0)), (153, .getfield 60, 3, 0, (12, 19, 18, 2, 3, 0)), (156, .iload 5, 2, 0, (0, 0, 0, 0, 0, 0)), (158, .baload, 1, 0, (15, 44, 0, 0, 0, 0)), (159, .ifCond .eq 20, 3, 0, (0, 0, 0, 0, 0, 0)), (162, .aload_n 0, 1, 0, (0, 0, 0, 0, 0, 0)), (163, .getfield 60, 3, 0, (12, 19, 18, 2, 3, 0)), (166, .iload_n 1, 1, 0, (0, 0, 0, 0, 0, 0)), (167, .baload, 1, 0, (15, 44, 0, 0, 0, 0)), (168, .ifCond .eq 11, 3, 0, (0, 0, 0, 0, 0, 0)), (171, .aload_n 0, 1, 0, (0, 0, 0, 0, 0, 0)), (172, .iload_n 1, 1, 0, (0, 0, 0, 0, 0, 0)), (173, .iload 5, 2, 0, (0, 0, 0, 0, 0, 0)), (175, .iload_n 2, 1, 0, (0, 0, 0, 0, 0, 0)), (176, .invokevirtual 297, 3, 0, (6, 4, 0, 0, 1, 0)), (179, .aload_n 0, 1, 0, (0, 0, 0, 0, 0, 0)), (180, .getfield 117, 3, 0, (12, 38, 16, 2, 29, 0)), (183, .iload 5, 2, 0, (0, 0, 0, 0, 0, 0)), (185, .iconst 0, 1, 0, (0, 0, 0, 0, 0, 0)), (186, .iastore, 1, 0, (13, 44, 0, 0, 0, 0)), (187, .aload_n 0, 1, 0, (0, 0, 0, 0, 0, 0)), (188, .iload_n 3, 1, 0, (0, 0, 0, 0, 0, 0)), (189, .iload 4, 2, 0, (0, 0, 0, 0, 0, 0)), (191, .iload_n 2, 1, 0, (0, 0, 0, 0, 0, 0)), (192, .invokevirtual 293, 3, 0, (2, 4, 0, 0, 1, 0)), (195, .istore 5, 2, 0, (0, 0, 0, 0, 0, 0)), (197, .goto (-50), 3, 0, (0, 0, 0, 0, 0, 0)), (200, .return_, 1, 0, (0, 0, 0, 0, 0, 0))]
set_option maxRecDepth 100000 in
theorem rk251 : R251.all (rok 2 251 0 [(243, [15]), (248, [15, 0, 0, 0, 0]), (250, [15, 0, 0, 0]), (246, [15, 0, 0, 0, 0]), (245, [15, 0, 0, 0, 0]), (226, [15, 0]), (249, [15, 0, 0, 0])]) = true := by decide +kernel
set_option maxRecDepth 100000 in
theorem tab251 {F243 : PM → PM} {G243 : PM → Prop} {F248 : PM → Int32 → Int32 → Int32 → Int32 → PM} {G248 : PM → Int32 → Int32 → Int32 → Int32 → Prop} {F250 : PM → Int32 → Int32 → Int32 → Int32} {G250 : PM → Int32 → Int32 → Int32 → Prop} {F246 : PM → Int32 → Int32 → Int32 → Int32 → PM} {G246 : PM → Int32 → Int32 → Int32 → Int32 → Prop} {F245 : PM → Int32 → Int32 → Int32 → Int32 → PM} {G245 : PM → Int32 → Int32 → Int32 → Int32 → Prop} {F226 : PM → Int32 → Int32} {G226 : PM → Int32 → Prop} {F249 : PM → Int32 → Int32 → Int32 → PM} {G249 : PM → Int32 → Int32 → Int32 → Prop} : TabOK 2 251 0 [CC243 F243 G243, CC248 F248 G248, CC250 F250 G250, CC246 F246 G246, CC245 F245 G245, CC226 F226 G226, CC249 F249 G249] R251 := tab_ok (K := K251) rfl rfl (fun h => d251 h) rk251 (by decide +kernel)
set_option maxRecDepth 100000 in
theorem pc251 : cutpc [30, 147] R251 = true := by decide +kernel
set_option maxRecDepth 100000 in
theorem r12_servesAll_147 (F243 : PM → PM) (G243 : PM → Prop) (o243 : CalOK 2 (CC243 F243 G243)) (F248 : PM → Int32 → Int32 → Int32 → Int32 → PM) (G248 : PM → Int32 → Int32 → Int32 → Int32 → Prop) (o248 : CalOK 2 (CC248 F248 G248)) (F250 : PM → Int32 → Int32 → Int32 → Int32) (G250 : PM → Int32 → Int32 → Int32 → Prop) (o250 : CalOK 2 (CC250 F250 G250)) (F246 : PM → Int32 → Int32 → Int32 → Int32 → PM) (G246 : PM → Int32 → Int32 → Int32 → Int32 → Prop) (o246 : CalOK 2 (CC246 F246 G246)) (F245 : PM → Int32 → Int32 → Int32 → Int32 → PM) (G245 : PM → Int32 → Int32 → Int32 → Int32 → Prop) (o245 : CalOK 2 (CC245 F245 G245)) (F226 : PM → Int32 → Int32) (G226 : PM → Int32 → Prop) (o226 : CalOK 2 (CC226 F226 G226)) (F249 : PM → Int32 → Int32 → Int32 → PM) (G249 : PM → Int32 → Int32 → Int32 → Prop) (o249 : CalOK 2 (CC249 F249 G249)) (kv147 : PM → Int32 → Int32 → Int32 → Int32 → Int32 → PM) (kg147 : PM → Int32 → Int32 → Int32 → Int32 → Int32 → Prop) (hk147 : ∀ (p : PM) (v1 : Int32) (v2 : Int32) (v3 : Int32) (v4 : Int32) (v5 : Int32), Gr 2 p → kg147 p v1 v2 v3 v4 v5 → ZJ 2 251 147 [zR 12 1, zI v1, zI v2, zI v3, zI v4, zI v5] [] p (hwV (kv147 p v1 v2 v3 v4 v5))) : ∀ (p : PM) (v1 : Int32) (v2 : Int32) (v3 : Int32) (v4 : Int32) (v5 : Int32), Gr 2 p → bg12_servesAll_147 F249 G249 F250 G250 kg147 p v1 v2 v3 v4 v5 → ZJ 2 251 147 [zR 12 1, zI v1, zI v2, zI v3, zI v4, zI v5] [] p (hwV (bv12_servesAll_147 F249 F250 kv147 p v1 v2 v3 v4 v5)) := by
  intro p v1 v2 v3 v4 v5  hg H
  exact rwV (n := 3000) (q := 147) (la := [zR 12 1, zI v1, zI v2, zI v3, zI v4, zI v5]) (sa := []) (ks := [fun _ _ s => s, fun la sa s => kv147 s (ai la 1) (ai la 2) (ai la 3) (ai la 4) (ai la 5)]) (gs := [fun _ _ _ => False, fun la sa s => zsw (tc2 la [(112, 1), (0, 0), (0, 0), (0, 0), (0, 0), (0, 0)] && tc2 sa []) False (kg147 s (ai la 1) (ai la 2) (ai la 3) (ai la 4) (ai la 5))]) (fcons o243 (fcons o248 (fcons o250 (fcons o246 (fcons o245 (fcons o226 (fcons o249 (fnil)))))))) tab251 pc251 ⟨fun _ _ _ _ H => H.elim, fun la sa s hg H => zcut H fun H => hk147 s (ai la 1) (ai la 2) (ai la 3) (ai la 4) (ai la 5) hg H, trivial⟩ hg H
theorem t12_servesAll_147 : ∀ (n : Nat), ∀ (p : PM) (v1 : Int32) (v2 : Int32) (v3 : Int32) (v4 : Int32) (v5 : Int32), Gr 2 p → g12_servesAll_147 n p v1 v2 v3 v4 v5 → ZJ 2 251 147 [zR 12 1, zI v1, zI v2, zI v3, zI v4, zI v5] [] p (hwV (v12_servesAll_147 n p v1 v2 v3 v4 v5)) := by
  intro n
  induction n with
  | zero =>
    intro p v1 v2 v3 v4 v5  hg H
    exact H.elim
  | succ n ih => exact r12_servesAll_147 v12_clearsGets g12_clearsGets ok243 v12_sharesOut g12_sharesOut ok248 v12_served g12_served ok250 v12_sharesBySize g12_sharesBySize ok246 v12_sharesByTurns g12_sharesByTurns ok245 v12_showsNow g12_showsNow ok226 v12_tradesWith g12_tradesWith ok249 (v12_servesAll_147 n) (g12_servesAll_147 n) ih
set_option maxRecDepth 100000 in
theorem r12_servesAll_30 (F243 : PM → PM) (G243 : PM → Prop) (o243 : CalOK 2 (CC243 F243 G243)) (F248 : PM → Int32 → Int32 → Int32 → Int32 → PM) (G248 : PM → Int32 → Int32 → Int32 → Int32 → Prop) (o248 : CalOK 2 (CC248 F248 G248)) (F250 : PM → Int32 → Int32 → Int32 → Int32) (G250 : PM → Int32 → Int32 → Int32 → Prop) (o250 : CalOK 2 (CC250 F250 G250)) (F246 : PM → Int32 → Int32 → Int32 → Int32 → PM) (G246 : PM → Int32 → Int32 → Int32 → Int32 → Prop) (o246 : CalOK 2 (CC246 F246 G246)) (F245 : PM → Int32 → Int32 → Int32 → Int32 → PM) (G245 : PM → Int32 → Int32 → Int32 → Int32 → Prop) (o245 : CalOK 2 (CC245 F245 G245)) (F226 : PM → Int32 → Int32) (G226 : PM → Int32 → Prop) (o226 : CalOK 2 (CC226 F226 G226)) (F249 : PM → Int32 → Int32 → Int32 → PM) (G249 : PM → Int32 → Int32 → Int32 → Prop) (o249 : CalOK 2 (CC249 F249 G249)) (kv30 : PM → Int32 → Int32 → Int32 → Int32 → Int32 → PM) (kg30 : PM → Int32 → Int32 → Int32 → Int32 → Int32 → Prop) (hk30 : ∀ (p : PM) (v1 : Int32) (v2 : Int32) (v3 : Int32) (v4 : Int32) (v5 : Int32), Gr 2 p → kg30 p v1 v2 v3 v4 v5 → ZJ 2 251 30 [zR 12 1, zI v1, zI v2, zI v3, zI v4, zI v5] [] p (hwV (kv30 p v1 v2 v3 v4 v5))) (kv147 : PM → Int32 → Int32 → Int32 → Int32 → Int32 → PM) (kg147 : PM → Int32 → Int32 → Int32 → Int32 → Int32 → Prop) (hk147 : ∀ (p : PM) (v1 : Int32) (v2 : Int32) (v3 : Int32) (v4 : Int32) (v5 : Int32), Gr 2 p → kg147 p v1 v2 v3 v4 v5 → ZJ 2 251 147 [zR 12 1, zI v1, zI v2, zI v3, zI v4, zI v5] [] p (hwV (kv147 p v1 v2 v3 v4 v5))) : ∀ (p : PM) (v1 : Int32) (v2 : Int32) (v3 : Int32) (v4 : Int32) (v5 : Int32), Gr 2 p → bg12_servesAll_30 F226 G226 F245 G245 F246 G246 F248 G248 F250 G250 kg30 kg147 p v1 v2 v3 v4 v5 → ZJ 2 251 30 [zR 12 1, zI v1, zI v2, zI v3, zI v4, zI v5] [] p (hwV (bv12_servesAll_30 F226 F245 F246 F248 F250 kv30 kv147 p v1 v2 v3 v4 v5)) := by
  intro p v1 v2 v3 v4 v5  hg H
  exact rwV (n := 3000) (q := 30) (la := [zR 12 1, zI v1, zI v2, zI v3, zI v4, zI v5]) (sa := []) (ks := [fun la sa s => kv30 s (ai la 1) (ai la 2) (ai la 3) (ai la 4) (ai la 5), fun la sa s => kv147 s (ai la 1) (ai la 2) (ai la 3) (ai la 4) (ai la 5)]) (gs := [fun la sa s => zsw (tc2 la [(112, 1), (0, 0), (0, 0), (0, 0), (0, 0), (0, 0)] && tc2 sa []) False (kg30 s (ai la 1) (ai la 2) (ai la 3) (ai la 4) (ai la 5)), fun la sa s => zsw (tc2 la [(112, 1), (0, 0), (0, 0), (0, 0), (0, 0), (0, 0)] && tc2 sa []) False (kg147 s (ai la 1) (ai la 2) (ai la 3) (ai la 4) (ai la 5))]) (fcons o243 (fcons o248 (fcons o250 (fcons o246 (fcons o245 (fcons o226 (fcons o249 (fnil)))))))) tab251 pc251 ⟨fun la sa s hg H => zcut H fun H => hk30 s (ai la 1) (ai la 2) (ai la 3) (ai la 4) (ai la 5) hg H, fun la sa s hg H => zcut H fun H => hk147 s (ai la 1) (ai la 2) (ai la 3) (ai la 4) (ai la 5) hg H, trivial⟩ hg H
theorem t12_servesAll_30 : ∀ (n : Nat), ∀ (p : PM) (v1 : Int32) (v2 : Int32) (v3 : Int32) (v4 : Int32) (v5 : Int32), Gr 2 p → g12_servesAll_30 n p v1 v2 v3 v4 v5 → ZJ 2 251 30 [zR 12 1, zI v1, zI v2, zI v3, zI v4, zI v5] [] p (hwV (v12_servesAll_30 n p v1 v2 v3 v4 v5)) := by
  intro n
  induction n with
  | zero =>
    intro p v1 v2 v3 v4 v5  hg H
    exact H.elim
  | succ n ih => exact r12_servesAll_30 v12_clearsGets g12_clearsGets ok243 v12_sharesOut g12_sharesOut ok248 v12_served g12_served ok250 v12_sharesBySize g12_sharesBySize ok246 v12_sharesByTurns g12_sharesByTurns ok245 v12_showsNow g12_showsNow ok226 v12_tradesWith g12_tradesWith ok249 (v12_servesAll_30 n) (g12_servesAll_30 n) ih (v12_servesAll_147 FU) (g12_servesAll_147 FU) (t12_servesAll_147 FU)
set_option maxRecDepth 100000 in
theorem r12_servesAll (F243 : PM → PM) (G243 : PM → Prop) (o243 : CalOK 2 (CC243 F243 G243)) (F248 : PM → Int32 → Int32 → Int32 → Int32 → PM) (G248 : PM → Int32 → Int32 → Int32 → Int32 → Prop) (o248 : CalOK 2 (CC248 F248 G248)) (F250 : PM → Int32 → Int32 → Int32 → Int32) (G250 : PM → Int32 → Int32 → Int32 → Prop) (o250 : CalOK 2 (CC250 F250 G250)) (F246 : PM → Int32 → Int32 → Int32 → Int32 → PM) (G246 : PM → Int32 → Int32 → Int32 → Int32 → Prop) (o246 : CalOK 2 (CC246 F246 G246)) (F245 : PM → Int32 → Int32 → Int32 → Int32 → PM) (G245 : PM → Int32 → Int32 → Int32 → Int32 → Prop) (o245 : CalOK 2 (CC245 F245 G245)) (F226 : PM → Int32 → Int32) (G226 : PM → Int32 → Prop) (o226 : CalOK 2 (CC226 F226 G226)) (F249 : PM → Int32 → Int32 → Int32 → PM) (G249 : PM → Int32 → Int32 → Int32 → Prop) (o249 : CalOK 2 (CC249 F249 G249)) (kv30 : PM → Int32 → Int32 → Int32 → Int32 → Int32 → PM) (kg30 : PM → Int32 → Int32 → Int32 → Int32 → Int32 → Prop) (hk30 : ∀ (p : PM) (v1 : Int32) (v2 : Int32) (v3 : Int32) (v4 : Int32) (v5 : Int32), Gr 2 p → kg30 p v1 v2 v3 v4 v5 → ZJ 2 251 30 [zR 12 1, zI v1, zI v2, zI v3, zI v4, zI v5] [] p (hwV (kv30 p v1 v2 v3 v4 v5))) : ∀ (p : PM) (v1 : Int32) (v2 : Int32), Gr 2 p → bg12_servesAll F243 G243 kg30 p v1 v2 → ZJ 2 251 0 [zR 12 1, zI v1, zI v2, zJ, zJ, zJ] [] p (hwV (bv12_servesAll F243 kv30 p v1 v2)) := by
  intro p v1 v2  hg H
  exact rwV (n := 3000) (q := 0) (la := [zR 12 1, zI v1, zI v2, zJ, zJ, zJ]) (sa := []) (ks := [fun la sa s => kv30 s (ai la 1) (ai la 2) (ai la 3) (ai la 4) (ai la 5), fun _ _ s => s]) (gs := [fun la sa s => zsw (tc2 la [(112, 1), (0, 0), (0, 0), (0, 0), (0, 0), (0, 0)] && tc2 sa []) False (kg30 s (ai la 1) (ai la 2) (ai la 3) (ai la 4) (ai la 5)), fun _ _ _ => False]) (fcons o243 (fcons o248 (fcons o250 (fcons o246 (fcons o245 (fcons o226 (fcons o249 (fnil)))))))) tab251 pc251 ⟨fun la sa s hg H => zcut H fun H => hk30 s (ai la 1) (ai la 2) (ai la 3) (ai la 4) (ai la 5) hg H, fun _ _ _ _ H => H.elim, trivial⟩ hg H
theorem t12_servesAll : ∀ (p : PM) (v1 : Int32) (v2 : Int32), Gr 2 p → g12_servesAll p v1 v2 → ZJ 2 251 0 [zR 12 1, zI v1, zI v2, zJ, zJ, zJ] [] p (hwV (v12_servesAll p v1 v2)) := r12_servesAll v12_clearsGets g12_clearsGets ok243 v12_sharesOut g12_sharesOut ok248 v12_served g12_served ok250 v12_sharesBySize g12_sharesBySize ok246 v12_sharesByTurns g12_sharesByTurns ok245 v12_showsNow g12_showsNow ok226 v12_tradesWith g12_tradesWith ok249 (v12_servesAll_30 FU) (g12_servesAll_30 FU) (t12_servesAll_30 FU)
def CC251 (F : PM → Int32 → Int32 → PM) (G : PM → Int32 → Int32 → Prop) : Cal := (251, [15, 0, 0], 0, false, fun as p => (zJ, (F p (ai as 1) (ai as 2))), fun as p => zsw (tc2 as [(112, 1), (0, 0), (0, 0)]) False (G p (ai as 1) (ai as 2)))
set_option maxRecDepth 100000 in
theorem okr251 (F : PM → Int32 → Int32 → PM) (G : PM → Int32 → Int32 → Prop) (h : ∀ (p : PM) (v1 : Int32) (v2 : Int32), Gr 2 p → G p v1 v2 → ZJ 2 251 0 [zR 12 1, zI v1, zI v2, zJ, zJ, zJ] [] p (hwV (F p v1 v2))) : CalOK 2 (CC251 F G) := cal_ok (m := 6) (by unfold mL; rw [mX_251]) (fun as p hg H => h p (ai as 1) (ai as 2) hg H)
theorem ok251 : CalOK 2 (CC251 v12_servesAll g12_servesAll) := okr251 v12_servesAll g12_servesAll t12_servesAll
noncomputable def bv12_hasOwn_5 (p : PM) (F241 : PM → Int32 → Int32 → Int32 → Int32 → Int32) (kv5 : Int32 → Int32 → Int32 → Int32 → Int32) (v1 : Int32) (v2 : Int32) (v3 : Int32) (v4 : Int32) : Int32 :=
  if v4 < (cn 44) then (
    if v3 = 0 then (
      if (p.1 15 4 (v1).toNatClampNeg) = 0 then (
        if (F241 p v4 (p.1 13 16 (v1).toNatClampNeg) (cn 1) v2) = 0 then (
          kv5 v1 v2 (cn 0) (v4 + (cn 1)))
        else (
          if ((p.1 13 15 (v4).toNatClampNeg) / (cn 2)) = ((p.1 13 15 (v1).toNatClampNeg) / (cn 2)) then (
            kv5 v1 v2 (cn 1) (v4 + (cn 1)))
          else (
            kv5 v1 v2 (cn 0) (v4 + (cn 1)))))
      else (
        if (F241 p v4 (p.1 13 16 (v1).toNatClampNeg) (cn 0) v2) = 0 then (
          kv5 v1 v2 (cn 0) (v4 + (cn 1)))
        else (
          if ((p.1 13 15 (v4).toNatClampNeg) / (cn 2)) = ((p.1 13 15 (v1).toNatClampNeg) / (cn 2)) then (
            kv5 v1 v2 (cn 1) (v4 + (cn 1)))
          else (
            kv5 v1 v2 (cn 0) (v4 + (cn 1))))))
    else (
      kv5 v1 v2 (cn 1) (v4 + (cn 1))))
  else (
    v3)
noncomputable def v12_hasOwn_5 (p : PM) (n : Nat) : Int32 → Int32 → Int32 → Int32 → Int32 := Nat.rec (motive := fun _ => Int32 → Int32 → Int32 → Int32 → Int32) (fun _ _ _ _ => 0) (fun _ ih => bv12_hasOwn_5 p v12_isAt ih) n
theorem ev12_hasOwn_5 (p : PM) (n : Nat) (v1 : Int32) (v2 : Int32) (v3 : Int32) (v4 : Int32) : v12_hasOwn_5 p (n + 1) v1 v2 v3 v4 = bv12_hasOwn_5 p v12_isAt (v12_hasOwn_5 p n) v1 v2 v3 v4 := rfl
noncomputable def bg12_hasOwn_5 (p : PM) (F241 : PM → Int32 → Int32 → Int32 → Int32 → Int32) (G241 : PM → Int32 → Int32 → Int32 → Int32 → Prop) (kg5 : Int32 → Int32 → Int32 → Int32 → Prop) (v1 : Int32) (v2 : Int32) (v3 : Int32) (v4 : Int32) : Prop :=
  if v4 < (cn 44) then (
    if v3 = 0 then (
      (inb v1 44) ∧ (
      (inb v1 44) ∧ (
      if (p.1 15 4 (v1).toNatClampNeg) = 0 then (
        (G241 p v4 (p.1 13 16 (v1).toNatClampNeg) (cn 1) v2) ∧ (
        if (F241 p v4 (p.1 13 16 (v1).toNatClampNeg) (cn 1) v2) = 0 then (
          kg5 v1 v2 (cn 0) (v4 + (cn 1)))
        else (
          (inb v4 44) ∧ (
          (inb v1 44) ∧ (
          if ((p.1 13 15 (v4).toNatClampNeg) / (cn 2)) = ((p.1 13 15 (v1).toNatClampNeg) / (cn 2)) then (
            kg5 v1 v2 (cn 1) (v4 + (cn 1)))
          else (
            kg5 v1 v2 (cn 0) (v4 + (cn 1))))))))
      else (
        (G241 p v4 (p.1 13 16 (v1).toNatClampNeg) (cn 0) v2) ∧ (
        if (F241 p v4 (p.1 13 16 (v1).toNatClampNeg) (cn 0) v2) = 0 then (
          kg5 v1 v2 (cn 0) (v4 + (cn 1)))
        else (
          (inb v4 44) ∧ (
          (inb v1 44) ∧ (
          if ((p.1 13 15 (v4).toNatClampNeg) / (cn 2)) = ((p.1 13 15 (v1).toNatClampNeg) / (cn 2)) then (
            kg5 v1 v2 (cn 1) (v4 + (cn 1)))
          else (
            kg5 v1 v2 (cn 0) (v4 + (cn 1)))))))))))
    else (
      kg5 v1 v2 (cn 1) (v4 + (cn 1))))
  else (
    (b01 v3) ∧ (
    True))
noncomputable def g12_hasOwn_5 (p : PM) (n : Nat) : Int32 → Int32 → Int32 → Int32 → Prop := Nat.rec (motive := fun _ => Int32 → Int32 → Int32 → Int32 → Prop) (fun _ _ _ _ => False) (fun _ ih => bg12_hasOwn_5 p v12_isAt g12_isAt ih) n
theorem eg12_hasOwn_5 (p : PM) (n : Nat) (v1 : Int32) (v2 : Int32) (v3 : Int32) (v4 : Int32) : g12_hasOwn_5 p (n + 1) v1 v2 v3 v4 = bg12_hasOwn_5 p v12_isAt g12_isAt (g12_hasOwn_5 p n) v1 v2 v3 v4 := rfl
noncomputable def bv12_hasOwn (p : PM) (kv5 : Int32 → Int32 → Int32 → Int32 → Int32) (v1 : Int32) (v2 : Int32) : Int32 :=
  kv5 v1 v2 (cn 0) (cn 0)
noncomputable def v12_hasOwn (p : PM) (v1 : Int32) (v2 : Int32) : Int32 := bv12_hasOwn p (v12_hasOwn_5 p FU) v1 v2
noncomputable def bg12_hasOwn (p : PM) (kg5 : Int32 → Int32 → Int32 → Int32 → Prop) (v1 : Int32) (v2 : Int32) : Prop :=
  kg5 v1 v2 (cn 0) (cn 0)
noncomputable def g12_hasOwn (p : PM) (v1 : Int32) (v2 : Int32) : Prop := bg12_hasOwn p (g12_hasOwn_5 p FU) v1 v2
def R252 : List Row := [(0, .iconst 0, 1, 0, (0, 0, 0, 0, 0, 0)), (1, .istore_n 3, 1, 0, (0, 0, 0, 0, 0, 0)), (2, .iconst 0, 1, 0, (0, 0, 0, 0, 0, 0)), (3, .istore 4, 2, 0, (0, 0, 0, 0, 0, 0)), (5, .iload 4, 2, 1, (0, 0, 0, 0, 0, 0)), (7, .bipush 44, 2, 0, (0, 0, 0, 0, 0, 44)), (9, .if_icmp .ge 69, 3, 0, (0, 0, 0, 0, 0, 0)), (12, .iload_n 3, 1, 0, (0, 0, 0, 0, 0, 0)), (13, .ifCond .ne 53, 3, 0, (0, 0, 0, 0, 0, 0)), (16, .aload_n 0, 1, 0, (0, 0, 0, 0, 0, 0)), (17, .iload 4, 2, 0, (0, 0, 0, 0, 0, 0)), (19, .aload_n 0, 1, 0, (0, 0, 0, 0, 0, 0)), (20, .getfield 69, 3, 0, (12, 22, 16, 2, 16, 0)), (23, .iload_n 1, 1, 0, (0, 0, 0, 0, 0, 0)), (24, .iaload, 1, 0, (13, 44, 0, 0, 0, 0)), (25, .aload_n 0, 1, 0, (0, 0, 0, 0, 0, 0)), (26, .getfield 72, 3, 0, (12, 23, 18, 2, 4, 0)), (29, .iload_n 1, 1, 0, (0, 0, 0, 0, 0, 0)), (30, .baload, 1, 0, (15, 44, 0, 0, 0, 0)), (31, .ifCond .ne 7, 3, 0, (0, 0, 0, 0, 0, 0)), (34, .iconst 1, 1, 0, (0, 0, 0, 0, 0, 1)), (35, .goto 4, 3, 0, (0, 0, 0, 0, 0, 0)), (38, .iconst 0, 1, 0, (0, 0, 0, 0, 0, 0)), (39, .iload_n 2, 1, 0, (0, 0, 0, 0, 0, 0)), (40, .invokevirtual 251, 3, 0, (0, 5, 0, 0, 1, 0)), (43, .ifCond .eq 27, 3, 0, (0, 0, 0, 0, 0, 0)), (46, .aload_n 0, 1, 0, (0, 0, 0, 0, 0, 0)), (47, .getfield 66, 3, 0, (12, 21, 16, 2, 15, 0)), (50, .iload 4, 2, 0, (0, 0, 0, 0, 0, 0)), (52, .iaload, 1, 0, (13, 44, 0, 0, 0, 0)), (53, .iconst 2, 1, 0, (0, 0, 0, 0, 0, 2)), (54, .idiv, 1, 0, (0, 0, 0, 0, 0, 0)), (55, .aload_n 0, 1, 0, (0, 0, 0, 0, 0, 0)), (56, .getfield 66, 3, 0, (12, 21, 16, 2, 15, 0)), (59, .iload_n 1, 1, 0, (0, 0, 0, 0, 0, 0)), (60, .iaload, 1, 0, (13, 44, 0, 0, 0, 0)), (61, .iconst 2, 1, 0, (0, 0, 0, 0, 0, 2)), (62, .idiv, 1, 0, (0, 0, 0, 0, 0, 0)), (63, .if_icmp .ne 7, 3, 0, (0, 0, 0, 0, 0, 0)), (66, .iconst 1, 1, 0, (0, 0, 0, 0, 0, 1)), (67, .goto 4, 3, 0, (0, 0, 0, 0, 0, 0)), (70, .iconst 0, 1, 0, (0, 0, 0, 0, 0, 0)), (71, .istore_n 3, 1, 0, (0, 0, 0, 0, 0, 0)), (72, .iinc 4 1, 3, 0, (0, 0, 0, 0, 0, 1)), (75, .goto (-70), 3, 0, (0, 0, 0, 0, 0, 0)), (78, .iload_n 3, 1, 0, (0, 0, 0, 0, 0, 0)), (79, .ireturn, 1, 0, (1, 0, 0, 0, 0, 0))]
set_option maxRecDepth 100000 in
theorem rk252 : R252.all (rok 2 252 1 [(241, [15, 0, 0, 0, 0])]) = true := by decide +kernel
set_option maxRecDepth 100000 in
theorem tab252 {F241 : PM → Int32 → Int32 → Int32 → Int32 → Int32} {G241 : PM → Int32 → Int32 → Int32 → Int32 → Prop} : TabOK 2 252 1 [CC241 F241 G241] R252 := tab_ok (K := K252) rfl rfl (fun h => d252 h) rk252 (by decide +kernel)
set_option maxRecDepth 100000 in
theorem pc252 : cutpc [5] R252 = true := by decide +kernel
set_option maxRecDepth 100000 in
theorem r12_hasOwn_5 (p : PM) (hg : Gr 2 p) (F241 : PM → Int32 → Int32 → Int32 → Int32 → Int32) (G241 : PM → Int32 → Int32 → Int32 → Int32 → Prop) (o241 : CalOK 2 (CC241 F241 G241)) (kv5 : Int32 → Int32 → Int32 → Int32 → Int32) (kg5 : Int32 → Int32 → Int32 → Int32 → Prop) (hk5 : ∀ (v1 : Int32) (v2 : Int32) (v3 : Int32) (v4 : Int32), kg5 v1 v2 v3 v4 → ZJ 2 252 5 [zR 12 1, zI v1, zI v2, zI v3, zI v4] [] p (hoI p (kv5 v1 v2 v3 v4))) : ∀ (v1 : Int32) (v2 : Int32) (v3 : Int32) (v4 : Int32), bg12_hasOwn_5 p F241 G241 kg5 v1 v2 v3 v4 → ZJ 2 252 5 [zR 12 1, zI v1, zI v2, zI v3, zI v4] [] p (hoI p (bv12_hasOwn_5 p F241 kv5 v1 v2 v3 v4)) := by
  intro v1 v2 v3 v4  H
  exact roI (n := 3000) (q := 5) (la := [zR 12 1, zI v1, zI v2, zI v3, zI v4]) (sa := []) (ks := [fun la sa _ => kv5 (ai la 1) (ai la 2) (ai la 3) (ai la 4)]) (gs := [fun la sa _ => zsw (tc2 la [(112, 1), (0, 0), (0, 0), (0, 0), (0, 0)] && tc2 sa []) False (kg5 (ai la 1) (ai la 2) (ai la 3) (ai la 4))]) (fcons o241 (fnil)) tab252 pc252 ⟨fun la sa s hg H => zcut H fun H => hk5 (ai la 1) (ai la 2) (ai la 3) (ai la 4) H, trivial⟩ hg H
theorem t12_hasOwn_5 (p : PM) (hg : Gr 2 p) : ∀ (n : Nat), ∀ (v1 : Int32) (v2 : Int32) (v3 : Int32) (v4 : Int32), g12_hasOwn_5 p n v1 v2 v3 v4 → ZJ 2 252 5 [zR 12 1, zI v1, zI v2, zI v3, zI v4] [] p (hoI p (v12_hasOwn_5 p n v1 v2 v3 v4)) := by
  intro n
  induction n with
  | zero =>
    intro v1 v2 v3 v4  H
    exact H.elim
  | succ n ih => exact r12_hasOwn_5 p hg v12_isAt g12_isAt ok241 (v12_hasOwn_5 p n) (g12_hasOwn_5 p n) ih
set_option maxRecDepth 100000 in
theorem r12_hasOwn (p : PM) (hg : Gr 2 p) (F241 : PM → Int32 → Int32 → Int32 → Int32 → Int32) (G241 : PM → Int32 → Int32 → Int32 → Int32 → Prop) (o241 : CalOK 2 (CC241 F241 G241)) (kv5 : Int32 → Int32 → Int32 → Int32 → Int32) (kg5 : Int32 → Int32 → Int32 → Int32 → Prop) (hk5 : ∀ (v1 : Int32) (v2 : Int32) (v3 : Int32) (v4 : Int32), kg5 v1 v2 v3 v4 → ZJ 2 252 5 [zR 12 1, zI v1, zI v2, zI v3, zI v4] [] p (hoI p (kv5 v1 v2 v3 v4))) : ∀ (v1 : Int32) (v2 : Int32), bg12_hasOwn p kg5 v1 v2 → ZJ 2 252 0 [zR 12 1, zI v1, zI v2, zJ, zJ] [] p (hoI p (bv12_hasOwn p kv5 v1 v2)) := by
  intro v1 v2  H
  exact roI (n := 3000) (q := 0) (la := [zR 12 1, zI v1, zI v2, zJ, zJ]) (sa := []) (ks := [fun la sa _ => kv5 (ai la 1) (ai la 2) (ai la 3) (ai la 4)]) (gs := [fun la sa _ => zsw (tc2 la [(112, 1), (0, 0), (0, 0), (0, 0), (0, 0)] && tc2 sa []) False (kg5 (ai la 1) (ai la 2) (ai la 3) (ai la 4))]) (fcons o241 (fnil)) tab252 pc252 ⟨fun la sa s hg H => zcut H fun H => hk5 (ai la 1) (ai la 2) (ai la 3) (ai la 4) H, trivial⟩ hg H
theorem t12_hasOwn (p : PM) (hg : Gr 2 p) : ∀ (v1 : Int32) (v2 : Int32), g12_hasOwn p v1 v2 → ZJ 2 252 0 [zR 12 1, zI v1, zI v2, zJ, zJ] [] p (hoI p (v12_hasOwn p v1 v2)) := r12_hasOwn p hg v12_isAt g12_isAt ok241 (v12_hasOwn_5 p FU) (g12_hasOwn_5 p FU) (t12_hasOwn_5 p hg FU)
def CC252 (F : PM → Int32 → Int32 → Int32) (G : PM → Int32 → Int32 → Prop) : Cal := (252, [15, 0, 0], 1, true, fun as p => (zI (F p (ai as 1) (ai as 2)), p), fun as p => zsw (tc2 as [(112, 1), (0, 0), (0, 0)]) False (G p (ai as 1) (ai as 2)))
set_option maxRecDepth 100000 in
theorem okr252 (F : PM → Int32 → Int32 → Int32) (G : PM → Int32 → Int32 → Prop) (h : ∀ (p : PM) (v1 : Int32) (v2 : Int32), Gr 2 p → G p v1 v2 → ZJ 2 252 0 [zR 12 1, zI v1, zI v2, zJ, zJ] [] p (hoI p (F p v1 v2))) : CalOK 2 (CC252 F G) := cal_ok (m := 5) (by unfold mL; rw [mX_252]) (fun as p hg H => h p (ai as 1) (ai as 2) hg H)
theorem ok252 : CalOK 2 (CC252 v12_hasOwn g12_hasOwn) := okr252 v12_hasOwn g12_hasOwn (fun p v1 v2 hg H => t12_hasOwn p hg v1 v2 H)
noncomputable def bv12_removesOwn_2 (F241 : PM → Int32 → Int32 → Int32 → Int32 → Int32) (kv2 : PM → Int32 → Int32 → Int32 → PM) (p : PM) (v1 : Int32) (v2 : Int32) (v3 : Int32) : PM :=
  if v3 < (cn 44) then (
    if (p.1 15 4 (v1).toNatClampNeg) = 0 then (
      if (F241 p v3 (p.1 13 16 (v1).toNatClampNeg) (cn 1) v2) = 0 then (
        kv2 p v1 v2 (v3 + (cn 1)))
      else (
        if ((p.1 13 15 (v3).toNatClampNeg) / (cn 2)) = ((p.1 13 15 (v1).toNatClampNeg) / (cn 2)) then (
          let p2 : PM := pI p 15 3 (v3).toNatClampNeg (cn 0)
          kv2 p2 v1 v2 (v3 + (cn 1)))
        else (
          kv2 p v1 v2 (v3 + (cn 1)))))
    else (
      if (F241 p v3 (p.1 13 16 (v1).toNatClampNeg) (cn 0) v2) = 0 then (
        kv2 p v1 v2 (v3 + (cn 1)))
      else (
        if ((p.1 13 15 (v3).toNatClampNeg) / (cn 2)) = ((p.1 13 15 (v1).toNatClampNeg) / (cn 2)) then (
          let p1 : PM := pI p 15 3 (v3).toNatClampNeg (cn 0)
          kv2 p1 v1 v2 (v3 + (cn 1)))
        else (
          kv2 p v1 v2 (v3 + (cn 1))))))
  else (
    p)
noncomputable def v12_removesOwn_2 (n : Nat) : PM → Int32 → Int32 → Int32 → PM := Nat.rec (motive := fun _ => PM → Int32 → Int32 → Int32 → PM) (fun p _ _ _ => p) (fun _ ih => bv12_removesOwn_2 v12_isAt ih) n
theorem ev12_removesOwn_2 (n : Nat) (p : PM) (v1 : Int32) (v2 : Int32) (v3 : Int32) : v12_removesOwn_2 (n + 1) p v1 v2 v3 = bv12_removesOwn_2 v12_isAt (v12_removesOwn_2 n) p v1 v2 v3 := rfl
noncomputable def bg12_removesOwn_2 (F241 : PM → Int32 → Int32 → Int32 → Int32 → Int32) (G241 : PM → Int32 → Int32 → Int32 → Int32 → Prop) (kg2 : PM → Int32 → Int32 → Int32 → Prop) (p : PM) (v1 : Int32) (v2 : Int32) (v3 : Int32) : Prop :=
  if v3 < (cn 44) then (
    (inb v1 44) ∧ (
    (inb v1 44) ∧ (
    if (p.1 15 4 (v1).toNatClampNeg) = 0 then (
      (G241 p v3 (p.1 13 16 (v1).toNatClampNeg) (cn 1) v2) ∧ (
      if (F241 p v3 (p.1 13 16 (v1).toNatClampNeg) (cn 1) v2) = 0 then (
        kg2 p v1 v2 (v3 + (cn 1)))
      else (
        (inb v3 44) ∧ (
        (inb v1 44) ∧ (
        if ((p.1 13 15 (v3).toNatClampNeg) / (cn 2)) = ((p.1 13 15 (v1).toNatClampNeg) / (cn 2)) then (
          (inb v3 44) ∧ (
          let p2 : PM := pI p 15 3 (v3).toNatClampNeg (cn 0)
          kg2 p2 v1 v2 (v3 + (cn 1))))
        else (
          kg2 p v1 v2 (v3 + (cn 1))))))))
    else (
      (G241 p v3 (p.1 13 16 (v1).toNatClampNeg) (cn 0) v2) ∧ (
      if (F241 p v3 (p.1 13 16 (v1).toNatClampNeg) (cn 0) v2) = 0 then (
        kg2 p v1 v2 (v3 + (cn 1)))
      else (
        (inb v3 44) ∧ (
        (inb v1 44) ∧ (
        if ((p.1 13 15 (v3).toNatClampNeg) / (cn 2)) = ((p.1 13 15 (v1).toNatClampNeg) / (cn 2)) then (
          (inb v3 44) ∧ (
          let p1 : PM := pI p 15 3 (v3).toNatClampNeg (cn 0)
          kg2 p1 v1 v2 (v3 + (cn 1))))
        else (
          kg2 p v1 v2 (v3 + (cn 1)))))))))))
  else (
    True)
noncomputable def g12_removesOwn_2 (n : Nat) : PM → Int32 → Int32 → Int32 → Prop := Nat.rec (motive := fun _ => PM → Int32 → Int32 → Int32 → Prop) (fun _ _ _ _ => False) (fun _ ih => bg12_removesOwn_2 v12_isAt g12_isAt ih) n
theorem eg12_removesOwn_2 (n : Nat) (p : PM) (v1 : Int32) (v2 : Int32) (v3 : Int32) : g12_removesOwn_2 (n + 1) p v1 v2 v3 = bg12_removesOwn_2 v12_isAt g12_isAt (g12_removesOwn_2 n) p v1 v2 v3 := rfl
noncomputable def bv12_removesOwn (kv2 : PM → Int32 → Int32 → Int32 → PM) (p : PM) (v1 : Int32) (v2 : Int32) : PM :=
  kv2 p v1 v2 (cn 0)
noncomputable def v12_removesOwn (p : PM) (v1 : Int32) (v2 : Int32) : PM := bv12_removesOwn (v12_removesOwn_2 FU) p v1 v2
noncomputable def bg12_removesOwn (kg2 : PM → Int32 → Int32 → Int32 → Prop) (p : PM) (v1 : Int32) (v2 : Int32) : Prop :=
  kg2 p v1 v2 (cn 0)
noncomputable def g12_removesOwn (p : PM) (v1 : Int32) (v2 : Int32) : Prop := bg12_removesOwn (g12_removesOwn_2 FU) p v1 v2
def R253 : List Row := [(0, .iconst 0, 1, 0, (0, 0, 0, 0, 0, 0)), (1, .istore_n 3, 1, 0, (0, 0, 0, 0, 0, 0)), (2, .iload_n 3, 1, 1, (0, 0, 0, 0, 0, 0)), (3, .bipush 44, 2, 0, (0, 0, 0, 0, 0, 44)), (5, .if_icmp .ge 64, 3, 0, (0, 0, 0, 0, 0, 0)), (8, .aload_n 0, 1, 0, (0, 0, 0, 0, 0, 0)), (9, .iload_n 3, 1, 0, (0, 0, 0, 0, 0, 0)), (10, .aload_n 0, 1, 0, (0, 0, 0, 0, 0, 0)), (11, .getfield 69, 3, 0, (12, 22, 16, 2, 16, 0)), (14, .iload_n 1, 1, 0, (0, 0, 0, 0, 0, 0)), (15, .iaload, 1, 0, (13, 44, 0, 0, 0, 0)), (16, .aload_n 0, 1, 0, (0, 0, 0, 0, 0, 0)), (17, .getfield 72, 3, 0, (12, 23, 18, 2, 4, 0)), (20, .iload_n 1, 1, 0, (0, 0, 0, 0, 0, 0)), (21, .baload, 1, 0, (15, 44, 0, 0, 0, 0)), (22, .ifCond .ne 7, 3, 0, (0, 0, 0, 0, 0, 0)), (25, .iconst 1, 1, 0, (0, 0, 0, 0, 0, 1)), (26, .goto 4, 3, 0, (0, 0, 0, 0, 0, 0)), (29, .iconst 0, 1, 0, (0, 0, 0, 0, 0, 0)), (30, .iload_n 2, 1, 0, (0, 0, 0, 0, 0, 0)), (31, .invokevirtual 251, 3, 0, (0, 5, 0, 0, 1, 0)), (34, .ifCond .eq 29, 3, 0, (0, 0, 0, 0, 0, 0)), (37, .aload_n 0, 1, 0, (0, 0, 0, 0, 0, 0)), (38, .getfield 66, 3, 0, (12, 21, 16, 2, 15, 0)), (41, .iload_n 3, 1, 0, (0, 0, 0, 0, 0, 0)), (42, .iaload, 1, 0, (13, 44, 0, 0, 0, 0)), (43, .iconst 2, 1, 0, (0, 0, 0, 0, 0, 2)), (44, .idiv, 1, 0, (0, 0, 0, 0, 0, 0)), (45, .aload_n 0, 1, 0, (0, 0, 0, 0, 0, 0)), (46, .getfield 66, 3, 0, (12, 21, 16, 2, 15, 0)), (49, .iload_n 1, 1, 0, (0, 0, 0, 0, 0, 0)), (50, .iaload, 1, 0, (13, 44, 0, 0, 0, 0)), (51, .iconst 2, 1, 0, (0, 0, 0, 0, 0, 2)), (52, .idiv, 1, 0, (0, 0, 0, 0, 0, 0)), (53, .if_icmp .ne 10, 3, 0, (0, 0, 0, 0, 0, 0)), (56, .aload_n 0, 1, 0, (0, 0, 0, 0, 0, 0)), (57, .getfield 60, 3, 0, (12, 19, 18, 2, 3, 0)), (60, .iload_n 3, 1, 0, (0, 0, 0, 0, 0, 0)), (61, .iconst 0, 1, 0, (0, 0, 0, 0, 0, 0)), (62, .bastore, 1, 0, (15, 44, 0, 0, 0, 0)), (63, .iinc 3 1, 3, 0, (0, 0, 0, 0, 0, 1)), (66, .goto (-64), 3, 0, (0, 0, 0, 0, 0, 0)), (69, .return_, 1, 0, (0, 0, 0, 0, 0, 0))]
set_option maxRecDepth 100000 in
theorem rk253 : R253.all (rok 2 253 0 [(241, [15, 0, 0, 0, 0])]) = true := by decide +kernel
set_option maxRecDepth 100000 in
theorem tab253 {F241 : PM → Int32 → Int32 → Int32 → Int32 → Int32} {G241 : PM → Int32 → Int32 → Int32 → Int32 → Prop} : TabOK 2 253 0 [CC241 F241 G241] R253 := tab_ok (K := K253) rfl rfl (fun h => d253 h) rk253 (by decide +kernel)
set_option maxRecDepth 100000 in
theorem pc253 : cutpc [2] R253 = true := by decide +kernel
set_option maxRecDepth 100000 in
theorem r12_removesOwn_2 (F241 : PM → Int32 → Int32 → Int32 → Int32 → Int32) (G241 : PM → Int32 → Int32 → Int32 → Int32 → Prop) (o241 : CalOK 2 (CC241 F241 G241)) (kv2 : PM → Int32 → Int32 → Int32 → PM) (kg2 : PM → Int32 → Int32 → Int32 → Prop) (hk2 : ∀ (p : PM) (v1 : Int32) (v2 : Int32) (v3 : Int32), Gr 2 p → kg2 p v1 v2 v3 → ZJ 2 253 2 [zR 12 1, zI v1, zI v2, zI v3] [] p (hwV (kv2 p v1 v2 v3))) : ∀ (p : PM) (v1 : Int32) (v2 : Int32) (v3 : Int32), Gr 2 p → bg12_removesOwn_2 F241 G241 kg2 p v1 v2 v3 → ZJ 2 253 2 [zR 12 1, zI v1, zI v2, zI v3] [] p (hwV (bv12_removesOwn_2 F241 kv2 p v1 v2 v3)) := by
  intro p v1 v2 v3  hg H
  exact rwV (n := 3000) (q := 2) (la := [zR 12 1, zI v1, zI v2, zI v3]) (sa := []) (ks := [fun la sa s => kv2 s (ai la 1) (ai la 2) (ai la 3)]) (gs := [fun la sa s => zsw (tc2 la [(112, 1), (0, 0), (0, 0), (0, 0)] && tc2 sa []) False (kg2 s (ai la 1) (ai la 2) (ai la 3))]) (fcons o241 (fnil)) tab253 pc253 ⟨fun la sa s hg H => zcut H fun H => hk2 s (ai la 1) (ai la 2) (ai la 3) hg H, trivial⟩ hg H
theorem t12_removesOwn_2 : ∀ (n : Nat), ∀ (p : PM) (v1 : Int32) (v2 : Int32) (v3 : Int32), Gr 2 p → g12_removesOwn_2 n p v1 v2 v3 → ZJ 2 253 2 [zR 12 1, zI v1, zI v2, zI v3] [] p (hwV (v12_removesOwn_2 n p v1 v2 v3)) := by
  intro n
  induction n with
  | zero =>
    intro p v1 v2 v3  hg H
    exact H.elim
  | succ n ih => exact r12_removesOwn_2 v12_isAt g12_isAt ok241 (v12_removesOwn_2 n) (g12_removesOwn_2 n) ih
set_option maxRecDepth 100000 in
theorem r12_removesOwn (F241 : PM → Int32 → Int32 → Int32 → Int32 → Int32) (G241 : PM → Int32 → Int32 → Int32 → Int32 → Prop) (o241 : CalOK 2 (CC241 F241 G241)) (kv2 : PM → Int32 → Int32 → Int32 → PM) (kg2 : PM → Int32 → Int32 → Int32 → Prop) (hk2 : ∀ (p : PM) (v1 : Int32) (v2 : Int32) (v3 : Int32), Gr 2 p → kg2 p v1 v2 v3 → ZJ 2 253 2 [zR 12 1, zI v1, zI v2, zI v3] [] p (hwV (kv2 p v1 v2 v3))) : ∀ (p : PM) (v1 : Int32) (v2 : Int32), Gr 2 p → bg12_removesOwn kg2 p v1 v2 → ZJ 2 253 0 [zR 12 1, zI v1, zI v2, zJ] [] p (hwV (bv12_removesOwn kv2 p v1 v2)) := by
  intro p v1 v2  hg H
  exact rwV (n := 3000) (q := 0) (la := [zR 12 1, zI v1, zI v2, zJ]) (sa := []) (ks := [fun la sa s => kv2 s (ai la 1) (ai la 2) (ai la 3)]) (gs := [fun la sa s => zsw (tc2 la [(112, 1), (0, 0), (0, 0), (0, 0)] && tc2 sa []) False (kg2 s (ai la 1) (ai la 2) (ai la 3))]) (fcons o241 (fnil)) tab253 pc253 ⟨fun la sa s hg H => zcut H fun H => hk2 s (ai la 1) (ai la 2) (ai la 3) hg H, trivial⟩ hg H
theorem t12_removesOwn : ∀ (p : PM) (v1 : Int32) (v2 : Int32), Gr 2 p → g12_removesOwn p v1 v2 → ZJ 2 253 0 [zR 12 1, zI v1, zI v2, zJ] [] p (hwV (v12_removesOwn p v1 v2)) := r12_removesOwn v12_isAt g12_isAt ok241 (v12_removesOwn_2 FU) (g12_removesOwn_2 FU) (t12_removesOwn_2 FU)
def CC253 (F : PM → Int32 → Int32 → PM) (G : PM → Int32 → Int32 → Prop) : Cal := (253, [15, 0, 0], 0, false, fun as p => (zJ, (F p (ai as 1) (ai as 2))), fun as p => zsw (tc2 as [(112, 1), (0, 0), (0, 0)]) False (G p (ai as 1) (ai as 2)))
set_option maxRecDepth 100000 in
theorem okr253 (F : PM → Int32 → Int32 → PM) (G : PM → Int32 → Int32 → Prop) (h : ∀ (p : PM) (v1 : Int32) (v2 : Int32), Gr 2 p → G p v1 v2 → ZJ 2 253 0 [zR 12 1, zI v1, zI v2, zJ] [] p (hwV (F p v1 v2))) : CalOK 2 (CC253 F G) := cal_ok (m := 4) (by unfold mL; rw [mX_253]) (fun as p hg H => h p (ai as 1) (ai as 2) hg H)
theorem ok253 : CalOK 2 (CC253 v12_removesOwn g12_removesOwn) := okr253 v12_removesOwn g12_removesOwn t12_removesOwn
noncomputable def bv12_beginsAuction (p : PM) (v1 : Int32) (v2 : Int32) (v3 : Int32) : PM :=
  let p1 : PM := pI p 13 12 (v1).toNatClampNeg v2
  let p2 : PM := pI p1 13 13 (v1).toNatClampNeg v3
  let p3 : PM := pI p2 15 2 (v1).toNatClampNeg (cn 0)
  p3
noncomputable def v12_beginsAuction (p : PM) (v1 : Int32) (v2 : Int32) (v3 : Int32) : PM := bv12_beginsAuction p v1 v2 v3
noncomputable def bg12_beginsAuction (p : PM) (v1 : Int32) (v2 : Int32) (v3 : Int32) : Prop :=
  (inb v1 6) ∧ (
  let p1 : PM := pI p 13 12 (v1).toNatClampNeg v2
  (inb v1 6) ∧ (
  let p2 : PM := pI p1 13 13 (v1).toNatClampNeg v3
  (inb v1 6) ∧ (
  let p3 : PM := pI p2 15 2 (v1).toNatClampNeg (cn 0)
  True)))
noncomputable def g12_beginsAuction (p : PM) (v1 : Int32) (v2 : Int32) (v3 : Int32) : Prop := bg12_beginsAuction p v1 v2 v3
def R254 : List Row := [(0, .aload_n 0, 1, 0, (0, 0, 0, 0, 0, 0)), (1, .getfield 51, 3, 0, (12, 14, 16, 2, 12, 0)), (4, .iload_n 1, 1, 0, (0, 0, 0, 0, 0, 0)), (5, .iload_n 2, 1, 0, (0, 0, 0, 0, 0, 0)), (6, .iastore, 1, 0, (13, 6, 0, 0, 0, 0)), (7, .aload_n 0, 1, 0, (0, 0, 0, 0, 0, 0)), (8, .getfield 54, 3, 0, (12, 15, 16, 2, 13, 0)), (11, .iload_n 1, 1, 0, (0, 0, 0, 0, 0, 0)), (12, .iload_n 3, 1, 0, (0, 0, 0, 0, 0, 0)), (13, .iastore, 1, 0, (13, 6, 0, 0, 0, 0)), (14, .aload_n 0, 1, 0, (0, 0, 0, 0, 0, 0)), (15, .getfield 57, 3, 0, (12, 16, 18, 2, 2, 0)), (18, .iload_n 1, 1, 0, (0, 0, 0, 0, 0, 0)), (19, .iconst 0, 1, 0, (0, 0, 0, 0, 0, 0)), (20, .bastore, 1, 0, (15, 6, 0, 0, 0, 0)), (21, .return_, 1, 0, (0, 0, 0, 0, 0, 0))]
set_option maxRecDepth 100000 in
theorem rk254 : R254.all (rok 2 254 0 []) = true := by decide +kernel
set_option maxRecDepth 100000 in
theorem tab254 : TabOK 2 254 0 [] R254 := tab_ok (K := K254) rfl rfl (fun h => d254 h) rk254 (by decide +kernel)
set_option maxRecDepth 100000 in
theorem pc254 : cutpc [] R254 = true := by decide +kernel
set_option maxRecDepth 100000 in
theorem r12_beginsAuction : ∀ (p : PM) (v1 : Int32) (v2 : Int32) (v3 : Int32), Gr 2 p → bg12_beginsAuction p v1 v2 v3 → ZJ 2 254 0 [zR 12 1, zI v1, zI v2, zI v3] [] p (hwV (bv12_beginsAuction p v1 v2 v3)) := by
  intro p v1 v2 v3  hg H
  exact rwV (n := 3000) (q := 0) (la := [zR 12 1, zI v1, zI v2, zI v3]) (sa := []) (ks := []) (gs := []) (fnil) tab254 pc254 trivial hg H
theorem t12_beginsAuction : ∀ (p : PM) (v1 : Int32) (v2 : Int32) (v3 : Int32), Gr 2 p → g12_beginsAuction p v1 v2 v3 → ZJ 2 254 0 [zR 12 1, zI v1, zI v2, zI v3] [] p (hwV (v12_beginsAuction p v1 v2 v3)) := r12_beginsAuction
def CC254 (F : PM → Int32 → Int32 → Int32 → PM) (G : PM → Int32 → Int32 → Int32 → Prop) : Cal := (254, [15, 0, 0, 0], 0, false, fun as p => (zJ, (F p (ai as 1) (ai as 2) (ai as 3))), fun as p => zsw (tc2 as [(112, 1), (0, 0), (0, 0), (0, 0)]) False (G p (ai as 1) (ai as 2) (ai as 3)))
set_option maxRecDepth 100000 in
theorem okr254 (F : PM → Int32 → Int32 → Int32 → PM) (G : PM → Int32 → Int32 → Int32 → Prop) (h : ∀ (p : PM) (v1 : Int32) (v2 : Int32) (v3 : Int32), Gr 2 p → G p v1 v2 v3 → ZJ 2 254 0 [zR 12 1, zI v1, zI v2, zI v3] [] p (hwV (F p v1 v2 v3))) : CalOK 2 (CC254 F G) := cal_ok (m := 4) (by unfold mL; rw [mX_254]) (fun as p hg H => h p (ai as 1) (ai as 2) (ai as 3) hg H)
theorem ok254 : CalOK 2 (CC254 v12_beginsAuction g12_beginsAuction) := okr254 v12_beginsAuction g12_beginsAuction t12_beginsAuction
noncomputable def bv12_looks_64 (F220 : PM → Int32 → Int32 → Int32) (F251 : PM → Int32 → Int32 → PM) (F252 : PM → Int32 → Int32 → Int32) (F253 : PM → Int32 → Int32 → PM) (F254 : PM → Int32 → Int32 → Int32 → PM) (p : PM) (v1 : Int32) (v2 : Int32) (v3 : Int32) : Int32 × PM :=
  if (F220 p v2 v3) = 0 then (
    let p7 : PM := F254 p v2 ((p.1 12 1 17) + (cn 5)) (cn 0)
    ((cn 0), p7))
  else (
    if 0 < (p.1 13 8 (v2).toNatClampNeg) then (
      if (F252 p v1 v3) = 0 then (
        let p2 : PM := F251 p v1 v3
        ((p2.1 15 3 (v1).toNatClampNeg), p2))
      else (
        if (p.1 13 8 (v2).toNatClampNeg) = (cn 2) then (
          let p5 : PM := pI p 15 3 (v1).toNatClampNeg (cn 1)
          if (p5.1 13 8 (v2).toNatClampNeg) = (cn 2) then (
            let p6 : PM := F253 p5 v1 v3
            ((p6.1 15 3 (v1).toNatClampNeg), p6))
          else (
            ((p5.1 15 3 (v1).toNatClampNeg), p5)))
        else (
          let p3 : PM := pI p 15 3 (v1).toNatClampNeg (cn 0)
          if (p3.1 13 8 (v2).toNatClampNeg) = (cn 2) then (
            let p4 : PM := F253 p3 v1 v3
            ((p4.1 15 3 (v1).toNatClampNeg), p4))
          else (
            ((p3.1 15 3 (v1).toNatClampNeg), p3)))))
    else (
      let p1 : PM := F251 p v1 v3
      ((p1.1 15 3 (v1).toNatClampNeg), p1)))
noncomputable def v12_looks_64 (p : PM) (v1 : Int32) (v2 : Int32) (v3 : Int32) : Int32 × PM := bv12_looks_64 v12_isNear v12_servesAll v12_hasOwn v12_removesOwn v12_beginsAuction p v1 v2 v3
noncomputable def bg12_looks_64 (F220 : PM → Int32 → Int32 → Int32) (G220 : PM → Int32 → Int32 → Prop) (F251 : PM → Int32 → Int32 → PM) (G251 : PM → Int32 → Int32 → Prop) (F252 : PM → Int32 → Int32 → Int32) (G252 : PM → Int32 → Int32 → Prop) (F253 : PM → Int32 → Int32 → PM) (G253 : PM → Int32 → Int32 → Prop) (F254 : PM → Int32 → Int32 → Int32 → PM) (G254 : PM → Int32 → Int32 → Int32 → Prop) (p : PM) (v1 : Int32) (v2 : Int32) (v3 : Int32) : Prop :=
  (G220 p v2 v3) ∧ (
  if (F220 p v2 v3) = 0 then (
    (G254 p v2 ((p.1 12 1 17) + (cn 5)) (cn 0)) ∧ (
    let p7 : PM := F254 p v2 ((p.1 12 1 17) + (cn 5)) (cn 0)
    True))
  else (
    (inb v2 6) ∧ (
    if 0 < (p.1 13 8 (v2).toNatClampNeg) then (
      (G252 p v1 v3) ∧ (
      if (F252 p v1 v3) = 0 then (
        (G251 p v1 v3) ∧ (
        let p2 : PM := F251 p v1 v3
        (inb v1 44) ∧ (
        (b01 (p2.1 15 3 (v1).toNatClampNeg)) ∧ (
        True))))
      else (
        (inb v2 6) ∧ (
        if (p.1 13 8 (v2).toNatClampNeg) = (cn 2) then (
          (inb v1 44) ∧ (
          let p5 : PM := pI p 15 3 (v1).toNatClampNeg (cn 1)
          (inb v2 6) ∧ (
          if (p5.1 13 8 (v2).toNatClampNeg) = (cn 2) then (
            (G253 p5 v1 v3) ∧ (
            let p6 : PM := F253 p5 v1 v3
            (inb v1 44) ∧ (
            (b01 (p6.1 15 3 (v1).toNatClampNeg)) ∧ (
            True))))
          else (
            (inb v1 44) ∧ (
            (b01 (p5.1 15 3 (v1).toNatClampNeg)) ∧ (
            True))))))
        else (
          (inb v1 44) ∧ (
          let p3 : PM := pI p 15 3 (v1).toNatClampNeg (cn 0)
          (inb v2 6) ∧ (
          if (p3.1 13 8 (v2).toNatClampNeg) = (cn 2) then (
            (G253 p3 v1 v3) ∧ (
            let p4 : PM := F253 p3 v1 v3
            (inb v1 44) ∧ (
            (b01 (p4.1 15 3 (v1).toNatClampNeg)) ∧ (
            True))))
          else (
            (inb v1 44) ∧ (
            (b01 (p3.1 15 3 (v1).toNatClampNeg)) ∧ (
            True))))))))))
    else (
      (G251 p v1 v3) ∧ (
      let p1 : PM := F251 p v1 v3
      (inb v1 44) ∧ (
      (b01 (p1.1 15 3 (v1).toNatClampNeg)) ∧ (
      True)))))))
noncomputable def g12_looks_64 (p : PM) (v1 : Int32) (v2 : Int32) (v3 : Int32) : Prop := bg12_looks_64 v12_isNear g12_isNear v12_servesAll g12_servesAll v12_hasOwn g12_hasOwn v12_removesOwn g12_removesOwn v12_beginsAuction g12_beginsAuction p v1 v2 v3
noncomputable def bv12_looks (F239 : PM → Int32 → Int32 → Int32 → Int32) (F240 : PM → Int32 → Int32 → Int32 → Int32) (kv64 : PM → Int32 → Int32 → Int32 → Int32 × PM) (p : PM) (v1 : Int32) : Int32 × PM :=
  let x1 : Int32 := (p.1 13 16 (v1).toNatClampNeg)
  if (p.1 15 4 (v1).toNatClampNeg) = 0 then (
    let x3 : Int32 := (F240 p x1 (cn 1) (cn 1))
    if x3 = (cn (-100000)) then (
      ((cn 0), p))
    else (
      if (p.1 15 5 (v1).toNatClampNeg) = 0 then (
        if (F239 p x3 (p.1 13 18 (v1).toNatClampNeg) (p.1 15 4 (v1).toNatClampNeg)) = 0 then (
          kv64 p v1 x1 x3)
        else (
          ((cn 0), p)))
      else (
        kv64 p v1 x1 x3)))
  else (
    let x2 : Int32 := (F240 p x1 (cn 0) (cn 1))
    if x2 = (cn (-100000)) then (
      ((cn 0), p))
    else (
      if (p.1 15 5 (v1).toNatClampNeg) = 0 then (
        if (F239 p x2 (p.1 13 18 (v1).toNatClampNeg) (p.1 15 4 (v1).toNatClampNeg)) = 0 then (
          kv64 p v1 x1 x2)
        else (
          ((cn 0), p)))
      else (
        kv64 p v1 x1 x2)))
noncomputable def v12_looks (p : PM) (v1 : Int32) : Int32 × PM := bv12_looks v12_isBetter v12_bestOf v12_looks_64 p v1
noncomputable def bg12_looks (F239 : PM → Int32 → Int32 → Int32 → Int32) (G239 : PM → Int32 → Int32 → Int32 → Prop) (F240 : PM → Int32 → Int32 → Int32 → Int32) (G240 : PM → Int32 → Int32 → Int32 → Prop) (kg64 : PM → Int32 → Int32 → Int32 → Prop) (p : PM) (v1 : Int32) : Prop :=
  (inb v1 44) ∧ (
  let x1 : Int32 := (p.1 13 16 (v1).toNatClampNeg)
  (inb v1 44) ∧ (
  if (p.1 15 4 (v1).toNatClampNeg) = 0 then (
    (G240 p x1 (cn 1) (cn 1)) ∧ (
    let x3 : Int32 := (F240 p x1 (cn 1) (cn 1))
    if x3 = (cn (-100000)) then (
      True)
    else (
      (inb v1 44) ∧ (
      if (p.1 15 5 (v1).toNatClampNeg) = 0 then (
        (inb v1 44) ∧ (
        (inb v1 44) ∧ (
        (G239 p x3 (p.1 13 18 (v1).toNatClampNeg) (p.1 15 4 (v1).toNatClampNeg)) ∧ (
        if (F239 p x3 (p.1 13 18 (v1).toNatClampNeg) (p.1 15 4 (v1).toNatClampNeg)) = 0 then (
          kg64 p v1 x1 x3)
        else (
          True)))))
      else (
        kg64 p v1 x1 x3)))))
  else (
    (G240 p x1 (cn 0) (cn 1)) ∧ (
    let x2 : Int32 := (F240 p x1 (cn 0) (cn 1))
    if x2 = (cn (-100000)) then (
      True)
    else (
      (inb v1 44) ∧ (
      if (p.1 15 5 (v1).toNatClampNeg) = 0 then (
        (inb v1 44) ∧ (
        (inb v1 44) ∧ (
        (G239 p x2 (p.1 13 18 (v1).toNatClampNeg) (p.1 15 4 (v1).toNatClampNeg)) ∧ (
        if (F239 p x2 (p.1 13 18 (v1).toNatClampNeg) (p.1 15 4 (v1).toNatClampNeg)) = 0 then (
          kg64 p v1 x1 x2)
        else (
          True)))))
      else (
        kg64 p v1 x1 x2)))))))
noncomputable def g12_looks (p : PM) (v1 : Int32) : Prop := bg12_looks v12_isBetter g12_isBetter v12_bestOf g12_bestOf g12_looks_64 p v1
def R255 : List Row := [(0, .aload_n 0, 1, 0, (0, 0, 0, 0, 0, 0)), (1, .getfield 69, 3, 0, (12, 22, 16, 2, 16, 0)), (4, .iload_n 1, 1, 0, (0, 0, 0, 0, 0, 0)), (5, .iaload, 1, 0, (13, 44, 0, 0, 0, 0)), (6, .istore_n 2, 1, 0, (0, 0, 0, 0, 0, 0)), (7, .aload_n 0, 1, 0, (0, 0, 0, 0, 0, 0)), (8, .iload_n 2, 1, 0, (0, 0, 0, 0, 0, 0)), (9, .aload_n 0, 1, 0, (0, 0, 0, 0, 0, 0)), (10, .getfield 72, 3, 0, (12, 23, 18, 2, 4, 0)), (13, .iload_n 1, 1, 0, (0, 0, 0, 0, 0, 0)), (14, .baload, 1, 0, (15, 44, 0, 0, 0, 0)), (15, .ifCond .ne 7, 3, 0, (0, 0, 0, 0, 0, 0)), (18, .iconst 1, 1, 0, (0, 0, 0, 0, 0, 1)), (19, .goto 4, 3, 0, (0, 0, 0, 0, 0, 0)), (22, .iconst 0, 1, 0, (0, 0, 0, 0, 0, 0)), (23, .iconst 1, 1, 0, (0, 0, 0, 0, 0, 1)), (24, .invokevirtual 301, 3, 0, (0, 4, 0, 0, 1, 0)), (27, .istore_n 3, 1, 0, (0, 0, 0, 0, 0, 0)), (28, .iload_n 3, 1, 0, (0, 0, 0, 0, 0, 0)), (29, .ldc 184, 2, 0, (0, 0, 0, 0, 0, -100000)), (31, .if_icmp .eq 31, 3, 0, (0, 0, 0, 0, 0, 0)), (34, .aload_n 0, 1, 0, (0, 0, 0, 0, 0, 0)), (35, .getfield 78, 3, 0, (12, 25, 18, 2, 5, 0)), (38, .iload_n 1, 1, 0, (0, 0, 0, 0, 0, 0)), (39, .baload, 1, 0, (15, 44, 0, 0, 0, 0)), (40, .ifCond .ne 24, 3, 0, (0, 0, 0, 0, 0, 0)), (43, .iload_n 3, 1, 0, (0, 0, 0, 0, 0, 0)), (44, .aload_n 0, 1, 0, (0, 0, 0, 0, 0, 0)), (45, .getfield 81, 3, 0, (12, 26, 16, 2, 18, 0)), (48, .iload_n 1, 1, 0, (0, 0, 0, 0, 0, 0)), (49, .iaload, 1, 0, (13, 44, 0, 0, 0, 0)), (50, .aload_n 0, 1, 0, (0, 0, 0, 0, 0, 0)), (51, .getfield 72, 3, 0, (12, 23, 18, 2, 4, 0)), (54, .iload_n 1, 1, 0, (0, 0, 0, 0, 0, 0)), (55, .baload, 1, 0, (15, 44, 0, 0, 0, 0)), (56, .invokestatic 248, 3, 0, (1, 3, 0, 0, 0, 0)), (59, .ifCond .eq 5, 3, 0, (0, 0, 0, 0, 0, 0)), (62, .iconst 0, 1, 0, (0, 0, 0, 0, 0, 0)), (63, .ireturn, 1, 0, (1, 0, 0, 0, 0, 0)), (64, .aload_n 0, 1, 1, (0, 0, 0, 0, 0, 0)), (65, .iload_n 2, 1, 0, (0, 0, 0, 0, 0, 0)), (66, .iload_n 3, 1, 0, (0, 0, 0, 0, 0, 0)), (67, .invokevirtual 305, 3, 0, (2, 3, 0, 0, 1, 0)), (70, .ifCond .ne 17, 3, 0, (0, 0, 0, 0, 0, 0)), (73, .aload_n 0, 1, 0, (0, 0, 0, 0, 0, 0)), (74, .iload_n 2, 1, 0, (0, 0, 0, 0, 0, 0)), (75, .aload_n 0, 1, 0, (0, 0, 0, 0, 0, 0)), (76, .getfield 194, 3, 0, (12, 17, 0, 1, 0, 0)), (79, .iconst 5, 1, 0, (0, 0, 0, 0, 0, 5)), (80, .iadd, 1, 0, (0, 0, 0, 0, 0, 0)), (81, .iconst 0, 1, 0, (0, 0, 0, 0, 0, 0)), (82, .invokevirtual 309, 3, 0, (6, 4, 0, 0, 1, 0)), (85, .iconst 0, 1, 0, (0, 0, 0, 0, 0, 0)), (86, .ireturn, 1, 0, (1, 0, 0, 0, 0, 0)), (87, .aload_n 0, 1, 0, (0, 0, 0, 0, 0, 0)), (88, .getfield 39, 3, 0, (12, 10, 16, 2, 8, 0)), (91, .iload_n 2, 1, 0, (0, 0, 0, 0, 0, 0)), (92, .iaload, 1, 0, (13, 6, 0, 0, 0, 0)), (93, .ifCond .le 56, 3, 0, (0, 0, 0, 0, 0, 0)), (96, .aload_n 0, 1, 0, (0, 0, 0, 0, 0, 0)), (97, .iload_n 1, 1, 0, (0, 0, 0, 0, 0, 0)), (98, .iload_n 3, 1, 0, (0, 0, 0, 0, 0, 0)), (99, .invokevirtual 312, 3, 0, (4, 3, 0, 0, 1, 0)), (102, .ifCond .eq 47, 3, 0, (0, 0, 0, 0, 0, 0)), (105, .aload_n 0, 1, 0, (0, 0, 0, 0, 0, 0)), (106, .getfield 60, 3, 0, (12, 19, 18, 2, 3, 0)), (109, .iload_n 1, 1, 0, (0, 0, 0, 0, 0, 0)), (110, .aload_n 0, 1, 0, (0, 0, 0, 0, 0, 0)), (111, .getfield 39, 3, 0, (12, 10, 16, 2, 8, 0)), (114, .iload_n 2, 1, 0, (0, 0, 0, 0, 0, 0)), (115, .iaload, 1, 0, (13, 6, 0, 0, 0, 0)), (116, .iconst 2, 1, 0, (0, 0, 0, 0, 0, 2)), (117, .if_icmp .ne 7, 3, 0, (0, 0, 0, 0, 0, 0)), (120, .iconst 1, 1, 0, (0, 0, 0, 0, 0, 1)), (121, .goto 4, 3, 0, (0, 0, 0, 0, 0, 0)), (124, .iconst 0, 1, 0, (0, 0, 0, 0, 0, 0)), (125, .bastore, 1, 0, (15, 44, 0, 0, 0, 0)), (126, .aload_n 0, 1, 0, (0, 0, 0, 0, 0, 0)), (127, .getfield 39, 3, 0, (12, 10, 16, 2, 8, 0)), (130, .iload_n 2, 1, 0, (0, 0, 0, 0, 0, 0)), (131, .iaload, 1, 0, (13, 6, 0, 0, 0, 0)), (132, .iconst 2, 1, 0, (0, 0, 0, 0, 0, 2)), (133, .if_icmp .ne 9, 3, 0, (0, 0, 0, 0, 0, 0)), (136, .aload_n 0, 1, 0, (0, 0, 0, 0, 0, 0)), (137, .iload_n 1, 1, 0, (0, 0, 0, 0, 0, 0)), (138, .iload_n 3, 1, 0, (0, 0, 0, 0, 0, 0)), (139, .invokevirtual 315, 3, 0, (5, 3, 0, 0, 1, 0)), (142, .aload_n 0, 1, 0, (0, 0, 0, 0, 0, 0)), (143, .getfield 60, 3, 0, (12, 19, 18, 2, 3, 0)), (146, .iload_n 1, 1, 0, (0, 0, 0, 0, 0, 0)), (147, .baload, 1, 0, (15, 44, 0, 0, 0, 0)), (148, .ireturn, 1, 0, (1, 0, 0, 0, 0, 0)), (149, .aload_n 0, 1, 0, (0, 0, 0, 0, 0, 0)), (150, .iload_n 1, 1, 0, (0, 0, 0, 0, 0, 0)), (151, .iload_n 3, 1, 0, (0, 0, 0, 0, 0, 0)), (152, .invokevirtual 319, 3, 0, (3, 3, 0, 0, 1, 0)), (155, .aload_n 0, 1, 0, (0, 0, 0, 0, 0, 0)), (156, .getfield 60, 3, 0, (12, 19, 18, 2, 3, 0)), (159, .iload_n 1, 1, 0, (0, 0, 0, 0, 0, 0)), (160, .baload, 1, 0, (15, 44, 0, 0, 0, 0)), (161, .ireturn, 1, 0, (1, 0, 0, 0, 0, 0))]
set_option maxRecDepth 100000 in
theorem rk255 : R255.all (rok 2 255 1 [(240, [15, 0, 0, 0]), (239, [0, 0, 0]), (220, [15, 0, 0]), (251, [15, 0, 0]), (252, [15, 0, 0]), (253, [15, 0, 0]), (254, [15, 0, 0, 0])]) = true := by decide +kernel
set_option maxRecDepth 100000 in
theorem tab255 {F240 : PM → Int32 → Int32 → Int32 → Int32} {G240 : PM → Int32 → Int32 → Int32 → Prop} {F239 : PM → Int32 → Int32 → Int32 → Int32} {G239 : PM → Int32 → Int32 → Int32 → Prop} {F220 : PM → Int32 → Int32 → Int32} {G220 : PM → Int32 → Int32 → Prop} {F251 : PM → Int32 → Int32 → PM} {G251 : PM → Int32 → Int32 → Prop} {F252 : PM → Int32 → Int32 → Int32} {G252 : PM → Int32 → Int32 → Prop} {F253 : PM → Int32 → Int32 → PM} {G253 : PM → Int32 → Int32 → Prop} {F254 : PM → Int32 → Int32 → Int32 → PM} {G254 : PM → Int32 → Int32 → Int32 → Prop} : TabOK 2 255 1 [CC240 F240 G240, CC239 F239 G239, CC220 F220 G220, CC251 F251 G251, CC252 F252 G252, CC253 F253 G253, CC254 F254 G254] R255 := tab_ok (K := K255) rfl rfl (fun h => d255 h) rk255 (by decide +kernel)
set_option maxRecDepth 100000 in
theorem pc255 : cutpc [64] R255 = true := by decide +kernel
set_option maxRecDepth 100000 in
theorem r12_looks_64 (F240 : PM → Int32 → Int32 → Int32 → Int32) (G240 : PM → Int32 → Int32 → Int32 → Prop) (o240 : CalOK 2 (CC240 F240 G240)) (F239 : PM → Int32 → Int32 → Int32 → Int32) (G239 : PM → Int32 → Int32 → Int32 → Prop) (o239 : CalOK 2 (CC239 F239 G239)) (F220 : PM → Int32 → Int32 → Int32) (G220 : PM → Int32 → Int32 → Prop) (o220 : CalOK 2 (CC220 F220 G220)) (F251 : PM → Int32 → Int32 → PM) (G251 : PM → Int32 → Int32 → Prop) (o251 : CalOK 2 (CC251 F251 G251)) (F252 : PM → Int32 → Int32 → Int32) (G252 : PM → Int32 → Int32 → Prop) (o252 : CalOK 2 (CC252 F252 G252)) (F253 : PM → Int32 → Int32 → PM) (G253 : PM → Int32 → Int32 → Prop) (o253 : CalOK 2 (CC253 F253 G253)) (F254 : PM → Int32 → Int32 → Int32 → PM) (G254 : PM → Int32 → Int32 → Int32 → Prop) (o254 : CalOK 2 (CC254 F254 G254)) : ∀ (p : PM) (v1 : Int32) (v2 : Int32) (v3 : Int32), Gr 2 p → bg12_looks_64 F220 G220 F251 G251 F252 G252 F253 G253 F254 G254 p v1 v2 v3 → ZJ 2 255 64 [zR 12 1, zI v1, zI v2, zI v3] [] p (hwI (bv12_looks_64 F220 F251 F252 F253 F254 p v1 v2 v3)) := by
  intro p v1 v2 v3  hg H
  exact rwI (n := 3000) (q := 64) (la := [zR 12 1, zI v1, zI v2, zI v3]) (sa := []) (ks := [fun _ _ s => (0, s)]) (gs := [fun _ _ _ => False]) (fcons o240 (fcons o239 (fcons o220 (fcons o251 (fcons o252 (fcons o253 (fcons o254 (fnil)))))))) tab255 pc255 ⟨fun _ _ _ _ H => H.elim, trivial⟩ hg H
theorem t12_looks_64 : ∀ (p : PM) (v1 : Int32) (v2 : Int32) (v3 : Int32), Gr 2 p → g12_looks_64 p v1 v2 v3 → ZJ 2 255 64 [zR 12 1, zI v1, zI v2, zI v3] [] p (hwI (v12_looks_64 p v1 v2 v3)) := r12_looks_64 v12_bestOf g12_bestOf ok240 v12_isBetter g12_isBetter ok239 v12_isNear g12_isNear ok220 v12_servesAll g12_servesAll ok251 v12_hasOwn g12_hasOwn ok252 v12_removesOwn g12_removesOwn ok253 v12_beginsAuction g12_beginsAuction ok254
set_option maxRecDepth 100000 in
theorem r12_looks (F240 : PM → Int32 → Int32 → Int32 → Int32) (G240 : PM → Int32 → Int32 → Int32 → Prop) (o240 : CalOK 2 (CC240 F240 G240)) (F239 : PM → Int32 → Int32 → Int32 → Int32) (G239 : PM → Int32 → Int32 → Int32 → Prop) (o239 : CalOK 2 (CC239 F239 G239)) (F220 : PM → Int32 → Int32 → Int32) (G220 : PM → Int32 → Int32 → Prop) (o220 : CalOK 2 (CC220 F220 G220)) (F251 : PM → Int32 → Int32 → PM) (G251 : PM → Int32 → Int32 → Prop) (o251 : CalOK 2 (CC251 F251 G251)) (F252 : PM → Int32 → Int32 → Int32) (G252 : PM → Int32 → Int32 → Prop) (o252 : CalOK 2 (CC252 F252 G252)) (F253 : PM → Int32 → Int32 → PM) (G253 : PM → Int32 → Int32 → Prop) (o253 : CalOK 2 (CC253 F253 G253)) (F254 : PM → Int32 → Int32 → Int32 → PM) (G254 : PM → Int32 → Int32 → Int32 → Prop) (o254 : CalOK 2 (CC254 F254 G254)) (kv64 : PM → Int32 → Int32 → Int32 → Int32 × PM) (kg64 : PM → Int32 → Int32 → Int32 → Prop) (hk64 : ∀ (p : PM) (v1 : Int32) (v2 : Int32) (v3 : Int32), Gr 2 p → kg64 p v1 v2 v3 → ZJ 2 255 64 [zR 12 1, zI v1, zI v2, zI v3] [] p (hwI (kv64 p v1 v2 v3))) : ∀ (p : PM) (v1 : Int32), Gr 2 p → bg12_looks F239 G239 F240 G240 kg64 p v1 → ZJ 2 255 0 [zR 12 1, zI v1, zJ, zJ] [] p (hwI (bv12_looks F239 F240 kv64 p v1)) := by
  intro p v1  hg H
  exact rwI (n := 3000) (q := 0) (la := [zR 12 1, zI v1, zJ, zJ]) (sa := []) (ks := [fun la sa s => kv64 s (ai la 1) (ai la 2) (ai la 3)]) (gs := [fun la sa s => zsw (tc2 la [(112, 1), (0, 0), (0, 0), (0, 0)] && tc2 sa []) False (kg64 s (ai la 1) (ai la 2) (ai la 3))]) (fcons o240 (fcons o239 (fcons o220 (fcons o251 (fcons o252 (fcons o253 (fcons o254 (fnil)))))))) tab255 pc255 ⟨fun la sa s hg H => zcut H fun H => hk64 s (ai la 1) (ai la 2) (ai la 3) hg H, trivial⟩ hg H
theorem t12_looks : ∀ (p : PM) (v1 : Int32), Gr 2 p → g12_looks p v1 → ZJ 2 255 0 [zR 12 1, zI v1, zJ, zJ] [] p (hwI (v12_looks p v1)) := r12_looks v12_bestOf g12_bestOf ok240 v12_isBetter g12_isBetter ok239 v12_isNear g12_isNear ok220 v12_servesAll g12_servesAll ok251 v12_hasOwn g12_hasOwn ok252 v12_removesOwn g12_removesOwn ok253 v12_beginsAuction g12_beginsAuction ok254 (v12_looks_64) (g12_looks_64) (t12_looks_64)
def CC255 (F : PM → Int32 → Int32 × PM) (G : PM → Int32 → Prop) : Cal := (255, [15, 0], 1, false, fun as p => (zI (F p (ai as 1)).1, (F p (ai as 1)).2), fun as p => zsw (tc2 as [(112, 1), (0, 0)]) False (G p (ai as 1)))
set_option maxRecDepth 100000 in
theorem okr255 (F : PM → Int32 → Int32 × PM) (G : PM → Int32 → Prop) (h : ∀ (p : PM) (v1 : Int32), Gr 2 p → G p v1 → ZJ 2 255 0 [zR 12 1, zI v1, zJ, zJ] [] p (hwI (F p v1))) : CalOK 2 (CC255 F G) := cal_ok (m := 4) (by unfold mL; rw [mX_255]) (fun as p hg H => h p (ai as 1) hg H)
theorem ok255 : CalOK 2 (CC255 v12_looks g12_looks) := okr255 v12_looks g12_looks t12_looks
noncomputable def bv12_matches_9 (F228 : PM → Int32 → PM) (F255 : PM → Int32 → Int32 × PM) (kv9 : PM → Int32 → Int32 → PM) (p : PM) (v1 : Int32) (v2 : Int32) : PM :=
  if v2 = 0 then (
    if (p.1 15 3 (v1).toNatClampNeg) = 0 then (
      if (p.1 15 3 (v1).toNatClampNeg) = 0 then (
        p)
      else (
        let p1 : PM := F228 p v1
        p1))
    else (
      if (p.1 15 5 (v1).toNatClampNeg) = 0 then (
        if (p.1 13 20 (v1).toNatClampNeg) = (cn (-100000)) then (
          let p5 : PM := pI p 15 3 (v1).toNatClampNeg (cn 0)
          if (p5.1 15 3 (v1).toNatClampNeg) = 0 then (
            p5)
          else (
            let p6 : PM := F228 p5 v1
            p6))
        else (
          if (p.1 15 3 (v1).toNatClampNeg) = 0 then (
            p)
          else (
            let p4 : PM := F228 p v1
            p4)))
      else (
        let p2 : PM := pI p 15 3 (v1).toNatClampNeg (cn 0)
        if (p2.1 15 3 (v1).toNatClampNeg) = 0 then (
          p2)
        else (
          let p3 : PM := F228 p2 v1
          p3))))
  else (
    let r7 : Int32 × PM := F255 p v1
    kv9 r7.2 v1 r7.1)
noncomputable def v12_matches_9 (n : Nat) : PM → Int32 → Int32 → PM := Nat.rec (motive := fun _ => PM → Int32 → Int32 → PM) (fun p _ _ => p) (fun _ ih => bv12_matches_9 v12_comes v12_looks ih) n
theorem ev12_matches_9 (n : Nat) (p : PM) (v1 : Int32) (v2 : Int32) : v12_matches_9 (n + 1) p v1 v2 = bv12_matches_9 v12_comes v12_looks (v12_matches_9 n) p v1 v2 := rfl
noncomputable def bg12_matches_9 (F228 : PM → Int32 → PM) (G228 : PM → Int32 → Prop) (F255 : PM → Int32 → Int32 × PM) (G255 : PM → Int32 → Prop) (kg9 : PM → Int32 → Int32 → Prop) (p : PM) (v1 : Int32) (v2 : Int32) : Prop :=
  if v2 = 0 then (
    (inb v1 44) ∧ (
    if (p.1 15 3 (v1).toNatClampNeg) = 0 then (
      (inb v1 44) ∧ (
      if (p.1 15 3 (v1).toNatClampNeg) = 0 then (
        True)
      else (
        (G228 p v1) ∧ (
        let p1 : PM := F228 p v1
        True))))
    else (
      (inb v1 44) ∧ (
      if (p.1 15 5 (v1).toNatClampNeg) = 0 then (
        (inb v1 44) ∧ (
        if (p.1 13 20 (v1).toNatClampNeg) = (cn (-100000)) then (
          (inb v1 44) ∧ (
          let p5 : PM := pI p 15 3 (v1).toNatClampNeg (cn 0)
          (inb v1 44) ∧ (
          if (p5.1 15 3 (v1).toNatClampNeg) = 0 then (
            True)
          else (
            (G228 p5 v1) ∧ (
            let p6 : PM := F228 p5 v1
            True)))))
        else (
          (inb v1 44) ∧ (
          if (p.1 15 3 (v1).toNatClampNeg) = 0 then (
            True)
          else (
            (G228 p v1) ∧ (
            let p4 : PM := F228 p v1
            True))))))
      else (
        (inb v1 44) ∧ (
        let p2 : PM := pI p 15 3 (v1).toNatClampNeg (cn 0)
        (inb v1 44) ∧ (
        if (p2.1 15 3 (v1).toNatClampNeg) = 0 then (
          True)
        else (
          (G228 p2 v1) ∧ (
          let p3 : PM := F228 p2 v1
          True)))))))))
  else (
    (G255 p v1) ∧ (
    let r7 : Int32 × PM := F255 p v1
    kg9 r7.2 v1 r7.1))
noncomputable def g12_matches_9 (n : Nat) : PM → Int32 → Int32 → Prop := Nat.rec (motive := fun _ => PM → Int32 → Int32 → Prop) (fun _ _ _ => False) (fun _ ih => bg12_matches_9 v12_comes g12_comes v12_looks g12_looks ih) n
theorem eg12_matches_9 (n : Nat) (p : PM) (v1 : Int32) (v2 : Int32) : g12_matches_9 (n + 1) p v1 v2 = bg12_matches_9 v12_comes g12_comes v12_looks g12_looks (g12_matches_9 n) p v1 v2 := rfl
noncomputable def bv12_matches (kv9 : PM → Int32 → Int32 → PM) (p : PM) (v1 : Int32) : PM :=
  let p1 : PM := pI p 13 24 (v1).toNatClampNeg (cn 0)
  kv9 p1 v1 (cn 1)
noncomputable def v12_matches (p : PM) (v1 : Int32) : PM := bv12_matches (v12_matches_9 FU) p v1
noncomputable def bg12_matches (kg9 : PM → Int32 → Int32 → Prop) (p : PM) (v1 : Int32) : Prop :=
  (inb v1 44) ∧ (
  let p1 : PM := pI p 13 24 (v1).toNatClampNeg (cn 0)
  kg9 p1 v1 (cn 1))
noncomputable def g12_matches (p : PM) (v1 : Int32) : Prop := bg12_matches (g12_matches_9 FU) p v1
def R256 : List Row := [(0, .aload_n 0, 1, 0, (0, 0, 0, 0, 0, 0)), (1, .getfield 99, 3, 0, (12, 32, 16, 2, 24, 0)), (4, .iload_n 1, 1, 0, (0, 0, 0, 0, 0, 0)), (5, .iconst 0, 1, 0, (0, 0, 0, 0, 0, 0)), (6, .iastore, 1, 0, (13, 44, 0, 0, 0, 0)), (7, .iconst 1, 1, 0, (0, 0, 0, 0, 0, 1)), (8, .istore_n 2, 1, 0, (0, 0, 0, 0, 0, 0)), (9, .iload_n 2, 1, 1, (0, 0, 0, 0, 0, 0)), (10, .ifCond .eq 12, 3, 0, (0, 0, 0, 0, 0, 0)), (13, .aload_n 0, 1, 0, (0, 0, 0, 0, 0, 0)), (14, .iload_n 1, 1, 0, (0, 0, 0, 0, 0, 0)), (15, .invokevirtual 322, 3, 0, (1, 2, 0, 0, 1, 0)), (18, .istore_n 2, 1, 0, (0, 0, 0, 0, 0, 0)), (19, .goto (-10), 3, 0, (0, 0, 0, 0, 0, 0)), (22, .aload_n 0, 1, 0, (0, 0, 0, 0, 0, 0)), (23, .getfield 60, 3, 0, (12, 19, 18, 2, 3, 0)), (26, .iload_n 1, 1, 0, (0, 0, 0, 0, 0, 0)), (27, .baload, 1, 0, (15, 44, 0, 0, 0, 0)), (28, .ifCond .eq 30, 3, 0, (0, 0, 0, 0, 0, 0)), (31, .aload_n 0, 1, 0, (0, 0, 0, 0, 0, 0)), (32, .getfield 78, 3, 0, (12, 25, 18, 2, 5, 0)), (35, .iload_n 1, 1, 0, (0, 0, 0, 0, 0, 0)), (36, .baload, 1, 0, (15, 44, 0, 0, 0, 0)), (37, .ifCond .ne 14, 3, 0, (0, 0, 0, 0, 0, 0)), (40, .aload_n 0, 1, 0, (0, 0, 0, 0, 0, 0)), (41, .getfield 87, 3, 0, (12, 28, 16, 2, 20, 0)), (44, .iload_n 1, 1, 0, (0, 0, 0, 0, 0, 0)), (45, .iaload, 1, 0, (13, 44, 0, 0, 0, 0)), (46, .ldc 184, 2, 0, (0, 0, 0, 0, 0, -100000)), (48, .if_icmp .ne 10, 3, 0, (0, 0, 0, 0, 0, 0)), (51, .aload_n 0, 1, 0, (0, 0, 0, 0, 0, 0)), (52, .getfield 60, 3, 0, (12, 19, 18, 2, 3, 0)), (55, .iload_n 1, 1, 0, (0, 0, 0, 0, 0, 0)), (56, .iconst 0, 1, 0, (0, 0, 0, 0, 0, 0)), (57, .bastore, 1, 0, (15, 44, 0, 0, 0, 0)), (58, .aload_n 0, 1, 0, (0, 0, 0, 0, 0, 0)), (59, .getfield 60, 3, 0, (12, 19, 18, 2, 3, 0)), (62, .iload_n 1, 1, 0, (0, 0, 0, 0, 0, 0)), (63, .baload, 1, 0, (15, 44, 0, 0, 0, 0)), (64, .ifCond .eq 8, 3, 0, (0, 0, 0, 0, 0, 0)), (67, .aload_n 0, 1, 0, (0, 0, 0, 0, 0, 0)), (68, .iload_n 1, 1, 0, (0, 0, 0, 0, 0, 0)), (69, .invokevirtual 325, 3, 0, (0, 2, 0, 0, 1, 0)), (72, .return_, 1, 0, (0, 0, 0, 0, 0, 0))]
set_option maxRecDepth 100000 in
theorem rk256 : R256.all (rok 2 256 0 [(228, [15, 0]), (255, [15, 0])]) = true := by decide +kernel
set_option maxRecDepth 100000 in
theorem tab256 {F228 : PM → Int32 → PM} {G228 : PM → Int32 → Prop} {F255 : PM → Int32 → Int32 × PM} {G255 : PM → Int32 → Prop} : TabOK 2 256 0 [CC228 F228 G228, CC255 F255 G255] R256 := tab_ok (K := K256) rfl rfl (fun h => d256 h) rk256 (by decide +kernel)
set_option maxRecDepth 100000 in
theorem pc256 : cutpc [9] R256 = true := by decide +kernel
set_option maxRecDepth 100000 in
theorem r12_matches_9 (F228 : PM → Int32 → PM) (G228 : PM → Int32 → Prop) (o228 : CalOK 2 (CC228 F228 G228)) (F255 : PM → Int32 → Int32 × PM) (G255 : PM → Int32 → Prop) (o255 : CalOK 2 (CC255 F255 G255)) (kv9 : PM → Int32 → Int32 → PM) (kg9 : PM → Int32 → Int32 → Prop) (hk9 : ∀ (p : PM) (v1 : Int32) (v2 : Int32), Gr 2 p → kg9 p v1 v2 → ZJ 2 256 9 [zR 12 1, zI v1, zI v2] [] p (hwV (kv9 p v1 v2))) : ∀ (p : PM) (v1 : Int32) (v2 : Int32), Gr 2 p → bg12_matches_9 F228 G228 F255 G255 kg9 p v1 v2 → ZJ 2 256 9 [zR 12 1, zI v1, zI v2] [] p (hwV (bv12_matches_9 F228 F255 kv9 p v1 v2)) := by
  intro p v1 v2  hg H
  exact rwV (n := 3000) (q := 9) (la := [zR 12 1, zI v1, zI v2]) (sa := []) (ks := [fun la sa s => kv9 s (ai la 1) (ai la 2)]) (gs := [fun la sa s => zsw (tc2 la [(112, 1), (0, 0), (0, 0)] && tc2 sa []) False (kg9 s (ai la 1) (ai la 2))]) (fcons o228 (fcons o255 (fnil))) tab256 pc256 ⟨fun la sa s hg H => zcut H fun H => hk9 s (ai la 1) (ai la 2) hg H, trivial⟩ hg H
theorem t12_matches_9 : ∀ (n : Nat), ∀ (p : PM) (v1 : Int32) (v2 : Int32), Gr 2 p → g12_matches_9 n p v1 v2 → ZJ 2 256 9 [zR 12 1, zI v1, zI v2] [] p (hwV (v12_matches_9 n p v1 v2)) := by
  intro n
  induction n with
  | zero =>
    intro p v1 v2  hg H
    exact H.elim
  | succ n ih => exact r12_matches_9 v12_comes g12_comes ok228 v12_looks g12_looks ok255 (v12_matches_9 n) (g12_matches_9 n) ih
set_option maxRecDepth 100000 in
theorem r12_matches (F228 : PM → Int32 → PM) (G228 : PM → Int32 → Prop) (o228 : CalOK 2 (CC228 F228 G228)) (F255 : PM → Int32 → Int32 × PM) (G255 : PM → Int32 → Prop) (o255 : CalOK 2 (CC255 F255 G255)) (kv9 : PM → Int32 → Int32 → PM) (kg9 : PM → Int32 → Int32 → Prop) (hk9 : ∀ (p : PM) (v1 : Int32) (v2 : Int32), Gr 2 p → kg9 p v1 v2 → ZJ 2 256 9 [zR 12 1, zI v1, zI v2] [] p (hwV (kv9 p v1 v2))) : ∀ (p : PM) (v1 : Int32), Gr 2 p → bg12_matches kg9 p v1 → ZJ 2 256 0 [zR 12 1, zI v1, zJ] [] p (hwV (bv12_matches kv9 p v1)) := by
  intro p v1  hg H
  exact rwV (n := 3000) (q := 0) (la := [zR 12 1, zI v1, zJ]) (sa := []) (ks := [fun la sa s => kv9 s (ai la 1) (ai la 2)]) (gs := [fun la sa s => zsw (tc2 la [(112, 1), (0, 0), (0, 0)] && tc2 sa []) False (kg9 s (ai la 1) (ai la 2))]) (fcons o228 (fcons o255 (fnil))) tab256 pc256 ⟨fun la sa s hg H => zcut H fun H => hk9 s (ai la 1) (ai la 2) hg H, trivial⟩ hg H
theorem t12_matches : ∀ (p : PM) (v1 : Int32), Gr 2 p → g12_matches p v1 → ZJ 2 256 0 [zR 12 1, zI v1, zJ] [] p (hwV (v12_matches p v1)) := r12_matches v12_comes g12_comes ok228 v12_looks g12_looks ok255 (v12_matches_9 FU) (g12_matches_9 FU) (t12_matches_9 FU)
def CC256 (F : PM → Int32 → PM) (G : PM → Int32 → Prop) : Cal := (256, [15, 0], 0, false, fun as p => (zJ, (F p (ai as 1))), fun as p => zsw (tc2 as [(112, 1), (0, 0)]) False (G p (ai as 1)))
set_option maxRecDepth 100000 in
theorem okr256 (F : PM → Int32 → PM) (G : PM → Int32 → Prop) (h : ∀ (p : PM) (v1 : Int32), Gr 2 p → G p v1 → ZJ 2 256 0 [zR 12 1, zI v1, zJ] [] p (hwV (F p v1))) : CalOK 2 (CC256 F G) := cal_ok (m := 3) (by unfold mL; rw [mX_256]) (fun as p hg H => h p (ai as 1) hg H)
theorem ok256 : CalOK 2 (CC256 v12_matches g12_matches) := okr256 v12_matches g12_matches t12_matches
noncomputable def bv12_enters (F218 : PM → Int32 → Int32) (F228 : PM → Int32 → PM) (F256 : PM → Int32 → PM) (p : PM) (v1 : Int32) : PM :=
  if (F218 p (p.1 13 16 (v1).toNatClampNeg)) = 0 then (
    let p1 : PM := F228 p v1
    p1)
  else (
    let p2 : PM := F256 p v1
    p2)
noncomputable def v12_enters (p : PM) (v1 : Int32) : PM := bv12_enters v12_isOpen v12_comes v12_matches p v1
noncomputable def bg12_enters (F218 : PM → Int32 → Int32) (G218 : PM → Int32 → Prop) (F228 : PM → Int32 → PM) (G228 : PM → Int32 → Prop) (F256 : PM → Int32 → PM) (G256 : PM → Int32 → Prop) (p : PM) (v1 : Int32) : Prop :=
  (inb v1 44) ∧ (
  (G218 p (p.1 13 16 (v1).toNatClampNeg)) ∧ (
  if (F218 p (p.1 13 16 (v1).toNatClampNeg)) = 0 then (
    (G228 p v1) ∧ (
    let p1 : PM := F228 p v1
    True))
  else (
    (G256 p v1) ∧ (
    let p2 : PM := F256 p v1
    True))))
noncomputable def g12_enters (p : PM) (v1 : Int32) : Prop := bg12_enters v12_isOpen g12_isOpen v12_comes g12_comes v12_matches g12_matches p v1
def R257 : List Row := [(0, .aload_n 0, 1, 0, (0, 0, 0, 0, 0, 0)), (1, .aload_n 0, 1, 0, (0, 0, 0, 0, 0, 0)), (2, .getfield 69, 3, 0, (12, 22, 16, 2, 16, 0)), (5, .iload_n 1, 1, 0, (0, 0, 0, 0, 0, 0)), (6, .iaload, 1, 0, (13, 44, 0, 0, 0, 0)), (7, .invokevirtual 328, 3, 0, (0, 2, 0, 0, 1, 0)), (10, .ifCond .eq 11, 3, 0, (0, 0, 0, 0, 0, 0)), (13, .aload_n 0, 1, 0, (0, 0, 0, 0, 0, 0)), (14, .iload_n 1, 1, 0, (0, 0, 0, 0, 0, 0)), (15, .invokevirtual 331, 3, 0, (2, 2, 0, 0, 1, 0)), (18, .goto 8, 3, 0, (0, 0, 0, 0, 0, 0)), (21, .aload_n 0, 1, 0, (0, 0, 0, 0, 0, 0)), (22, .iload_n 1, 1, 0, (0, 0, 0, 0, 0, 0)), (23, .invokevirtual 325, 3, 0, (1, 2, 0, 0, 1, 0)), (26, .return_, 1, 0, (0, 0, 0, 0, 0, 0))]
set_option maxRecDepth 100000 in
theorem rk257 : R257.all (rok 2 257 0 [(218, [15, 0]), (228, [15, 0]), (256, [15, 0])]) = true := by decide +kernel
set_option maxRecDepth 100000 in
theorem tab257 {F218 : PM → Int32 → Int32} {G218 : PM → Int32 → Prop} {F228 : PM → Int32 → PM} {G228 : PM → Int32 → Prop} {F256 : PM → Int32 → PM} {G256 : PM → Int32 → Prop} : TabOK 2 257 0 [CC218 F218 G218, CC228 F228 G228, CC256 F256 G256] R257 := tab_ok (K := K257) rfl rfl (fun h => d257 h) rk257 (by decide +kernel)
set_option maxRecDepth 100000 in
theorem pc257 : cutpc [] R257 = true := by decide +kernel
set_option maxRecDepth 100000 in
theorem r12_enters (F218 : PM → Int32 → Int32) (G218 : PM → Int32 → Prop) (o218 : CalOK 2 (CC218 F218 G218)) (F228 : PM → Int32 → PM) (G228 : PM → Int32 → Prop) (o228 : CalOK 2 (CC228 F228 G228)) (F256 : PM → Int32 → PM) (G256 : PM → Int32 → Prop) (o256 : CalOK 2 (CC256 F256 G256)) : ∀ (p : PM) (v1 : Int32), Gr 2 p → bg12_enters F218 G218 F228 G228 F256 G256 p v1 → ZJ 2 257 0 [zR 12 1, zI v1] [] p (hwV (bv12_enters F218 F228 F256 p v1)) := by
  intro p v1  hg H
  exact rwV (n := 3000) (q := 0) (la := [zR 12 1, zI v1]) (sa := []) (ks := []) (gs := []) (fcons o218 (fcons o228 (fcons o256 (fnil)))) tab257 pc257 trivial hg H
theorem t12_enters : ∀ (p : PM) (v1 : Int32), Gr 2 p → g12_enters p v1 → ZJ 2 257 0 [zR 12 1, zI v1] [] p (hwV (v12_enters p v1)) := r12_enters v12_isOpen g12_isOpen ok218 v12_comes g12_comes ok228 v12_matches g12_matches ok256
def CC257 (F : PM → Int32 → PM) (G : PM → Int32 → Prop) : Cal := (257, [15, 0], 0, false, fun as p => (zJ, (F p (ai as 1))), fun as p => zsw (tc2 as [(112, 1), (0, 0)]) False (G p (ai as 1)))
set_option maxRecDepth 100000 in
theorem okr257 (F : PM → Int32 → PM) (G : PM → Int32 → Prop) (h : ∀ (p : PM) (v1 : Int32), Gr 2 p → G p v1 → ZJ 2 257 0 [zR 12 1, zI v1] [] p (hwV (F p v1))) : CalOK 2 (CC257 F G) := cal_ok (m := 2) (by unfold mL; rw [mX_257]) (fun as p hg H => h p (ai as 1) hg H)
theorem ok257 : CalOK 2 (CC257 v12_enters g12_enters) := okr257 v12_enters g12_enters t12_enters
noncomputable def bv12_readyStop_4 (p : PM) (F218 : PM → Int32 → Int32) (kv4 : Int32 → Int32 → Int32) (v1 : Int32) (v2 : Int32) : Int32 :=
  if v2 < (cn 44) then (
    if (p.1 15 3 (v2).toNatClampNeg) = 0 then (
      kv4 v1 (v2 + (cn 1)))
    else (
      if (p.1 13 19 (v2).toNatClampNeg) = (cn 3) then (
        if (p.1 13 24 (v2).toNatClampNeg) = (cn 2) then (
          if (F218 p (p.1 13 16 (v2).toNatClampNeg)) = 0 then (
            kv4 v1 (v2 + (cn 1)))
          else (
            if (p.1 15 4 (v2).toNatClampNeg) = 0 then (
              if (p.1 13 27 (v2).toNatClampNeg) < (p.1 13 10 ((p.1 13 16 (v2).toNatClampNeg)).toNatClampNeg) then (
                kv4 v1 (v2 + (cn 1)))
              else (
                if v1 < 0 then (
                  kv4 v2 (v2 + (cn 1)))
                else (
                  if (p.1 13 14 (v2).toNatClampNeg) < (p.1 13 14 (v1).toNatClampNeg) then (
                    kv4 v2 (v2 + (cn 1)))
                  else (
                    kv4 v1 (v2 + (cn 1))))))
            else (
              if (p.1 13 10 ((p.1 13 16 (v2).toNatClampNeg)).toNatClampNeg) < (p.1 13 27 (v2).toNatClampNeg) then (
                kv4 v1 (v2 + (cn 1)))
              else (
                if v1 < 0 then (
                  kv4 v2 (v2 + (cn 1)))
                else (
                  if (p.1 13 14 (v2).toNatClampNeg) < (p.1 13 14 (v1).toNatClampNeg) then (
                    kv4 v2 (v2 + (cn 1)))
                  else (
                    kv4 v1 (v2 + (cn 1))))))))
        else (
          kv4 v1 (v2 + (cn 1))))
      else (
        kv4 v1 (v2 + (cn 1)))))
  else (
    v1)
noncomputable def v12_readyStop_4 (p : PM) (n : Nat) : Int32 → Int32 → Int32 := Nat.rec (motive := fun _ => Int32 → Int32 → Int32) (fun _ _ => 0) (fun _ ih => bv12_readyStop_4 p v12_isOpen ih) n
theorem ev12_readyStop_4 (p : PM) (n : Nat) (v1 : Int32) (v2 : Int32) : v12_readyStop_4 p (n + 1) v1 v2 = bv12_readyStop_4 p v12_isOpen (v12_readyStop_4 p n) v1 v2 := rfl
noncomputable def bg12_readyStop_4 (p : PM) (F218 : PM → Int32 → Int32) (G218 : PM → Int32 → Prop) (kg4 : Int32 → Int32 → Prop) (v1 : Int32) (v2 : Int32) : Prop :=
  if v2 < (cn 44) then (
    (inb v2 44) ∧ (
    if (p.1 15 3 (v2).toNatClampNeg) = 0 then (
      kg4 v1 (v2 + (cn 1)))
    else (
      (inb v2 44) ∧ (
      if (p.1 13 19 (v2).toNatClampNeg) = (cn 3) then (
        (inb v2 44) ∧ (
        if (p.1 13 24 (v2).toNatClampNeg) = (cn 2) then (
          (inb v2 44) ∧ (
          (G218 p (p.1 13 16 (v2).toNatClampNeg)) ∧ (
          if (F218 p (p.1 13 16 (v2).toNatClampNeg)) = 0 then (
            kg4 v1 (v2 + (cn 1)))
          else (
            (inb v2 44) ∧ (
            if (p.1 15 4 (v2).toNatClampNeg) = 0 then (
              (inb v2 44) ∧ (
              (inb (p.1 13 16 (v2).toNatClampNeg) 6) ∧ (
              (inb v2 44) ∧ (
              if (p.1 13 27 (v2).toNatClampNeg) < (p.1 13 10 ((p.1 13 16 (v2).toNatClampNeg)).toNatClampNeg) then (
                kg4 v1 (v2 + (cn 1)))
              else (
                if v1 < 0 then (
                  kg4 v2 (v2 + (cn 1)))
                else (
                  (inb v2 44) ∧ (
                  (inb v1 44) ∧ (
                  if (p.1 13 14 (v2).toNatClampNeg) < (p.1 13 14 (v1).toNatClampNeg) then (
                    kg4 v2 (v2 + (cn 1)))
                  else (
                    kg4 v1 (v2 + (cn 1)))))))))))
            else (
              (inb v2 44) ∧ (
              (inb (p.1 13 16 (v2).toNatClampNeg) 6) ∧ (
              (inb v2 44) ∧ (
              if (p.1 13 10 ((p.1 13 16 (v2).toNatClampNeg)).toNatClampNeg) < (p.1 13 27 (v2).toNatClampNeg) then (
                kg4 v1 (v2 + (cn 1)))
              else (
                if v1 < 0 then (
                  kg4 v2 (v2 + (cn 1)))
                else (
                  (inb v2 44) ∧ (
                  (inb v1 44) ∧ (
                  if (p.1 13 14 (v2).toNatClampNeg) < (p.1 13 14 (v1).toNatClampNeg) then (
                    kg4 v2 (v2 + (cn 1)))
                  else (
                    kg4 v1 (v2 + (cn 1))))))))))))))))
        else (
          kg4 v1 (v2 + (cn 1)))))
      else (
        kg4 v1 (v2 + (cn 1)))))))
  else (
    True)
noncomputable def g12_readyStop_4 (p : PM) (n : Nat) : Int32 → Int32 → Prop := Nat.rec (motive := fun _ => Int32 → Int32 → Prop) (fun _ _ => False) (fun _ ih => bg12_readyStop_4 p v12_isOpen g12_isOpen ih) n
theorem eg12_readyStop_4 (p : PM) (n : Nat) (v1 : Int32) (v2 : Int32) : g12_readyStop_4 p (n + 1) v1 v2 = bg12_readyStop_4 p v12_isOpen g12_isOpen (g12_readyStop_4 p n) v1 v2 := rfl
noncomputable def bv12_readyStop (p : PM) (kv4 : Int32 → Int32 → Int32) : Int32 :=
  kv4 (cn (-1)) (cn 0)
noncomputable def v12_readyStop (p : PM) : Int32 := bv12_readyStop p (v12_readyStop_4 p FU)
noncomputable def bg12_readyStop (p : PM) (kg4 : Int32 → Int32 → Prop) : Prop :=
  kg4 (cn (-1)) (cn 0)
noncomputable def g12_readyStop (p : PM) : Prop := bg12_readyStop p (g12_readyStop_4 p FU)
def R258 : List Row := [(0, .iconst (-1), 1, 0, (0, 0, 0, 0, 0, -1)), (1, .istore_n 1, 1, 0, (0, 0, 0, 0, 0, 0)), (2, .iconst 0, 1, 0, (0, 0, 0, 0, 0, 0)), (3, .istore_n 2, 1, 0, (0, 0, 0, 0, 0, 0)), (4, .iload_n 2, 1, 1, (0, 0, 0, 0, 0, 0)), (5, .bipush 44, 2, 0, (0, 0, 0, 0, 0, 44)), (7, .if_icmp .ge 148, 3, 0, (0, 0, 0, 0, 0, 0)), (10, .aload_n 0, 1, 0, (0, 0, 0, 0, 0, 0)), (11, .getfield 60, 3, 0, (12, 19, 18, 2, 3, 0)), (14, .iload_n 2, 1, 0, (0, 0, 0, 0, 0, 0)), (15, .baload, 1, 0, (15, 44, 0, 0, 0, 0)), (16, .ifCond .eq 40, 3, 0, (0, 0, 0, 0, 0, 0)), (19, .aload_n 0, 1, 0, (0, 0, 0, 0, 0, 0)), (20, .getfield 84, 3, 0, (12, 27, 16, 2, 19, 0)), (23, .iload_n 2, 1, 0, (0, 0, 0, 0, 0, 0)), (24, .iaload, 1, 0, (13, 44, 0, 0, 0, 0)), (25, .iconst 3, 1, 0, (0, 0, 0, 0, 0, 3)), (26, .if_icmp .ne 30, 3, 0, (0, 0, 0, 0, 0, 0)), (29, .aload_n 0, 1, 0, (0, 0, 0, 0, 0, 0)), (30, .getfield 99, 3, 0, (12, 32, 16, 2, 24, 0)), (33, .iload_n 2, 1, 0, (0, 0, 0, 0, 0, 0)), (34, .iaload, 1, 0, (13, 44, 0, 0, 0, 0)), (35, .iconst 2, 1, 0, (0, 0, 0, 0, 0, 2)), (36, .if_icmp .ne 20, 3, 0, (0, 0, 0, 0, 0, 0)), (39, .aload_n 0, 1, 0, (0, 0, 0, 0, 0, 0)), (40, .aload_n 0, 1, 0, (0, 0, 0, 0, 0, 0)), (41, .getfield 69, 3, 0, (12, 22, 16, 2, 16, 0)), (44, .iload_n 2, 1, 0, (0, 0, 0, 0, 0, 0)), (45, .iaload, 1, 0, (13, 44, 0, 0, 0, 0)), (46, .invokevirtual 328, 3, 0, (0, 2, 0, 0, 1, 0)), (49, .ifCond .eq 7, 3, 0, (0, 0, 0, 0, 0, 0)), (52, .iconst 1, 1, 0, (0, 0, 0, 0, 0, 1)), (53, .goto 4, 3, 0, (0, 0, 0, 0, 0, 0)), (56, .iconst 0, 1, 0, (0, 0, 0, 0, 0, 0)), (57, .istore_n 3, 1, 0, (0, 0, 0, 0, 0, 0)), (58, .iload_n 3, 1, 0, (0, 0, 0, 0, 0, 0)), (59, .ifCond .eq 59, 3, 0, (0, 0, 0, 0, 0, 0)), (62, .aload_n 0, 1, 0, (0, 0, 0, 0, 0, 0)), (63, .getfield 72, 3, 0, (12, 23, 18, 2, 4, 0)), (66, .iload_n 2, 1, 0, (0, 0, 0, 0, 0, 0)), (67, .baload, 1, 0, (15, 44, 0, 0, 0, 0)), (68, .ifCond .eq 26, 3, 0, (0, 0, 0, 0, 0, 0)), (71, .aload_n 0, 1, 0, (0, 0, 0, 0, 0, 0)), (72, .getfield 45, 3, 0, (12, 12, 16, 2, 10, 0)), (75, .aload_n 0, 1, 0, (0, 0, 0, 0, 0, 0)), (76, .getfield 69, 3, 0, (12, 22, 16, 2, 16, 0)), (79, .iload_n 2, 1, 0, (0, 0, 0, 0, 0, 0)), (80, .iaload, 1, 0, (13, 44, 0, 0, 0, 0)), (81, .iaload, 1, 0, (13, 6, 0, 0, 0, 0)), (82, .aload_n 0, 1, 0, (0, 0, 0, 0, 0, 0)), (83, .getfield 108, 3, 0, (12, 35, 16, 2, 27, 0)), (86, .iload_n 2, 1, 0, (0, 0, 0, 0, 0, 0)), (87, .iaload, 1, 0, (13, 44, 0, 0, 0, 0)), (88, .if_icmp .lt 30, 3, 0, (0, 0, 0, 0, 0, 0)), (91, .goto 23, 3, 0, (0, 0, 0, 0, 0, 0)), (94, .aload_n 0, 1, 0, (0, 0, 0, 0, 0, 0)), (95, .getfield 45, 3, 0, (12, 12, 16, 2, 10, 0)), (98, .aload_n 0, 1, 0, (0, 0, 0, 0, 0, 0)), (99, .getfield 69, 3, 0, (12, 22, 16, 2, 16, 0)), (102, .iload_n 2, 1, 0, (0, 0, 0, 0, 0, 0)), (103, .iaload, 1, 0, (13, 44, 0, 0, 0, 0)), (104, .iaload, 1, 0, (13, 6, 0, 0, 0, 0)), (105, .aload_n 0, 1, 0, (0, 0, 0, 0, 0, 0)), (106, .getfield 108, 3, 0, (12, 35, 16, 2, 27, 0)), (109, .iload_n 2, 1, 0, (0, 0, 0, 0, 0, 0)), (110, .iaload, 1, 0, (13, 44, 0, 0, 0, 0)), (111, .if_icmp .gt 7, 3, 0, (0, 0, 0, 0, 0, 0)), (114, .iconst 1, 1, 0, (0, 0, 0, 0, 0, 1)), (115, .goto 4, 3, 0, (0, 0, 0, 0, 0, 0)), (118, .iconst 0, 1, 0, (0, 0, 0, 0, 0, 0)), (119, .istore_n 3, 1, 0, (0, 0, 0, 0, 0, 0)), (120, .iload_n 3, 1, 0, (0, 0, 0, 0, 0, 0)), (121, .ifCond .eq 26, 3, 0, (0, 0, 0, 0, 0, 0)), (124, .iload_n 1, 1, 0, (0, 0, 0, 0, 0, 0)), (125, .ifCond .lt 18, 3, 0, (0, 0, 0, 0, 0, 0)), (128, .aload_n 0, 1, 0, (0, 0, 0, 0, 0, 0)), (129, .getfield 63, 3, 0, (12, 20, 16, 2, 14, 0)), (132, .iload_n 2, 1, 0, (0, 0, 0, 0, 0, 0)), (133, .iaload, 1, 0, (13, 44, 0, 0, 0, 0)), (134, .aload_n 0, 1, 0, (0, 0, 0, 0, 0, 0)), (135, .getfield 63, 3, 0, (12, 20, 16, 2, 14, 0)), (138, .iload_n 1, 1, 0, (0, 0, 0, 0, 0, 0)), (139, .iaload, 1, 0, (13, 44, 0, 0, 0, 0)), (140, .if_icmp .ge 7, 3, 0, (0, 0, 0, 0, 0, 0)), (143, .iload_n 2, 1, 0, (0, 0, 0, 0, 0, 0)), (144, .goto 4, 3, 0, (0, 0, 0, 0, 0, 0)), (147, .iload_n 1, 1, 0, (0, 0, 0, 0, 0, 0)), (148, .istore_n 1, 1, 0, (0, 0, 0, 0, 0, 0)), (149, .iinc 2 1, 3, 0, (0, 0, 0, 0, 0, 1)), (152, .goto (-148), 3, 0, (0, 0, 0, 0, 0, 0)), (155, .iload_n 1, 1, 0, (0, 0, 0, 0, 0, 0)), (156, .ireturn, 1, 0, (0, 0, 0, 0, 0, 0))]
set_option maxRecDepth 100000 in
theorem rk258 : R258.all (rok 2 258 1 [(218, [15, 0])]) = true := by decide +kernel
set_option maxRecDepth 100000 in
theorem tab258 {F218 : PM → Int32 → Int32} {G218 : PM → Int32 → Prop} : TabOK 2 258 1 [CC218 F218 G218] R258 := tab_ok (K := K258) rfl rfl (fun h => d258 h) rk258 (by decide +kernel)
set_option maxRecDepth 100000 in
theorem pc258 : cutpc [4] R258 = true := by decide +kernel
set_option maxRecDepth 100000 in
theorem r12_readyStop_4 (p : PM) (hg : Gr 2 p) (F218 : PM → Int32 → Int32) (G218 : PM → Int32 → Prop) (o218 : CalOK 2 (CC218 F218 G218)) (kv4 : Int32 → Int32 → Int32) (kg4 : Int32 → Int32 → Prop) (hk4 : ∀ (v1 : Int32) (v2 : Int32) (d3 : ZV), kg4 v1 v2 → ZJ 2 258 4 [zR 12 1, zI v1, zI v2, d3] [] p (hoI p (kv4 v1 v2))) : ∀ (v1 : Int32) (v2 : Int32) (d3 : ZV), bg12_readyStop_4 p F218 G218 kg4 v1 v2 → ZJ 2 258 4 [zR 12 1, zI v1, zI v2, d3] [] p (hoI p (bv12_readyStop_4 p F218 kv4 v1 v2)) := by
  intro v1 v2 d3 H
  exact roI (n := 3000) (q := 4) (la := [zR 12 1, zI v1, zI v2, d3]) (sa := []) (ks := [fun la sa _ => kv4 (ai la 1) (ai la 2)]) (gs := [fun la sa _ => zsw (tc2 la [(112, 1), (0, 0), (0, 0), (2, 0)] && tc2 sa []) False (kg4 (ai la 1) (ai la 2))]) (fcons o218 (fnil)) tab258 pc258 ⟨fun la sa s hg H => zcut H fun H => hk4 (ai la 1) (ai la 2) (zld la 3) H, trivial⟩ hg H
theorem t12_readyStop_4 (p : PM) (hg : Gr 2 p) : ∀ (n : Nat), ∀ (v1 : Int32) (v2 : Int32) (d3 : ZV), g12_readyStop_4 p n v1 v2 → ZJ 2 258 4 [zR 12 1, zI v1, zI v2, d3] [] p (hoI p (v12_readyStop_4 p n v1 v2)) := by
  intro n
  induction n with
  | zero =>
    intro v1 v2 d3 H
    exact H.elim
  | succ n ih => exact r12_readyStop_4 p hg v12_isOpen g12_isOpen ok218 (v12_readyStop_4 p n) (g12_readyStop_4 p n) ih
set_option maxRecDepth 100000 in
theorem r12_readyStop (p : PM) (hg : Gr 2 p) (F218 : PM → Int32 → Int32) (G218 : PM → Int32 → Prop) (o218 : CalOK 2 (CC218 F218 G218)) (kv4 : Int32 → Int32 → Int32) (kg4 : Int32 → Int32 → Prop) (hk4 : ∀ (v1 : Int32) (v2 : Int32) (d3 : ZV), kg4 v1 v2 → ZJ 2 258 4 [zR 12 1, zI v1, zI v2, d3] [] p (hoI p (kv4 v1 v2))) : bg12_readyStop p kg4 → ZJ 2 258 0 [zR 12 1, zJ, zJ, zJ] [] p (hoI p (bv12_readyStop p kv4)) := by
  intro   H
  exact roI (n := 3000) (q := 0) (la := [zR 12 1, zJ, zJ, zJ]) (sa := []) (ks := [fun la sa _ => kv4 (ai la 1) (ai la 2)]) (gs := [fun la sa _ => zsw (tc2 la [(112, 1), (0, 0), (0, 0), (2, 0)] && tc2 sa []) False (kg4 (ai la 1) (ai la 2))]) (fcons o218 (fnil)) tab258 pc258 ⟨fun la sa s hg H => zcut H fun H => hk4 (ai la 1) (ai la 2) (zld la 3) H, trivial⟩ hg H
theorem t12_readyStop (p : PM) (hg : Gr 2 p) : g12_readyStop p → ZJ 2 258 0 [zR 12 1, zJ, zJ, zJ] [] p (hoI p (v12_readyStop p)) := r12_readyStop p hg v12_isOpen g12_isOpen ok218 (v12_readyStop_4 p FU) (g12_readyStop_4 p FU) (t12_readyStop_4 p hg FU)
def CC258 (F : PM → Int32) (G : PM → Prop) : Cal := (258, [15], 1, true, fun as p => (zI (F p ), p), fun as p => zsw (tc2 as [(112, 1)]) False (G p ))
set_option maxRecDepth 100000 in
theorem okr258 (F : PM → Int32) (G : PM → Prop) (h : ∀ (p : PM), Gr 2 p → G p  → ZJ 2 258 0 [zR 12 1, zJ, zJ, zJ] [] p (hoI p (F p ))) : CalOK 2 (CC258 F G) := cal_ok (m := 4) (by unfold mL; rw [mX_258]) (fun as p hg H => h p  hg H)
theorem ok258 : CalOK 2 (CC258 v12_readyStop g12_readyStop) := okr258 v12_readyStop g12_readyStop (fun p  hg H => t12_readyStop p hg  H)
