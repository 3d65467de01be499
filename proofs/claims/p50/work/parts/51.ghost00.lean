/-! the reference as functions, a ghost beside the class (text of wip/whole/lift.py, chosen by wip/p50/ghost.py) -/
noncomputable def bv1_isFrozen (p : PM) (v0 : Nat) (v1 : Int32) : Int32 :=
  if (p.1 1 v0 5) = 0 then (
    (cn 0))
  else (
    if v1 < ((p.1 1 v0 7) - (p.1 1 v0 8)) then (
      (cn 0))
    else (
      (cn 1)))
noncomputable def v1_isFrozen (p : PM) (v0 : Nat) (v1 : Int32) : Int32 := bv1_isFrozen p v0 v1
noncomputable def bg1_isFrozen (p : PM) (v0 : Nat) (v1 : Int32) : Prop :=
  (¬ v0 = 0) ∧ (
  if (p.1 1 v0 5) = 0 then (
    True)
  else (
    (¬ v0 = 0) ∧ (
    (¬ v0 = 0) ∧ (
    if v1 < ((p.1 1 v0 7) - (p.1 1 v0 8)) then (
      True)
    else (
      True)))))
noncomputable def g1_isFrozen (p : PM) (v0 : Nat) (v1 : Int32) : Prop := bg1_isFrozen p v0 v1
noncomputable def bv7_canAllot (p : PM) (F2 : PM → Nat → Int32 → Int32) (F105 : PM → Int32 → Nat) (F112 : PM → Nat → Int32 → Int32 → Int32) (v1 : Int32) (v2 : Int32) (v3 : Int32) : Int32 :=
  let x1 : Int32 := (F2 p (F105 p v1) v2)
  if 0 < v3 then (
    if x1 < v3 then (
      (cn 0))
    else (
      if 0 < v3 then (
        if (F112 p (F105 p v1) v2 (cn 1)) = (cn (-100000)) then (
          (cn 0))
        else (
          (cn 1)))
      else (
        if (F112 p (F105 p v1) v2 (cn 0)) = (cn (-100000)) then (
          (cn 0))
        else (
          (cn 1)))))
  else (
    if v3 < x1 then (
      (cn 0))
    else (
      if 0 < v3 then (
        if (F112 p (F105 p v1) v2 (cn 1)) = (cn (-100000)) then (
          (cn 0))
        else (
          (cn 1)))
      else (
        if (F112 p (F105 p v1) v2 (cn 0)) = (cn (-100000)) then (
          (cn 0))
        else (
          (cn 1)))))
noncomputable def v7_canAllot (p : PM) (v1 : Int32) (v2 : Int32) (v3 : Int32) : Int32 := bv7_canAllot p v0_holds v7_accountAt v7_averageOf v1 v2 v3
noncomputable def bg7_canAllot (p : PM) (F2 : PM → Nat → Int32 → Int32) (G2 : PM → Nat → Int32 → Prop) (F105 : PM → Int32 → Nat) (G105 : PM → Int32 → Prop) (F112 : PM → Nat → Int32 → Int32 → Int32) (G112 : PM → Nat → Int32 → Int32 → Prop) (v1 : Int32) (v2 : Int32) (v3 : Int32) : Prop :=
  (G105 p v1) ∧ (
  (¬ (F105 p v1) = 0) ∧ (
  (G2 p (F105 p v1) v2) ∧ (
  let x1 : Int32 := (F2 p (F105 p v1) v2)
  if 0 < v3 then (
    if x1 < v3 then (
      True)
    else (
      if 0 < v3 then (
        (G112 p (F105 p v1) v2 (cn 1)) ∧ (
        if (F112 p (F105 p v1) v2 (cn 1)) = (cn (-100000)) then (
          True)
        else (
          True)))
      else (
        (G112 p (F105 p v1) v2 (cn 0)) ∧ (
        if (F112 p (F105 p v1) v2 (cn 0)) = (cn (-100000)) then (
          True)
        else (
          True)))))
  else (
    if v3 < x1 then (
      True)
    else (
      if 0 < v3 then (
        (G112 p (F105 p v1) v2 (cn 1)) ∧ (
        if (F112 p (F105 p v1) v2 (cn 1)) = (cn (-100000)) then (
          True)
        else (
          True)))
      else (
        (G112 p (F105 p v1) v2 (cn 0)) ∧ (
        if (F112 p (F105 p v1) v2 (cn 0)) = (cn (-100000)) then (
          True)
        else (
          True))))))))
noncomputable def g7_canAllot (p : PM) (v1 : Int32) (v2 : Int32) (v3 : Int32) : Prop := bg7_canAllot p v0_holds g0_holds v7_accountAt g7_accountAt v7_averageOf g7_averageOf v1 v2 v3
noncomputable def bv12_thrown (p : PM) : Int32 :=
  (p.1 12 1 0)
noncomputable def v12_thrown (p : PM) : Int32 := bv12_thrown p
noncomputable def bg12_thrown (p : PM) : Prop :=
  True
noncomputable def g12_thrown (p : PM) : Prop := bg12_thrown p
noncomputable def bv12_resets_230 (kv230 : PM → Int32 → PM) (p : PM) (v1 : Int32) : PM :=
  if v1 < (cn 4) then (
    let p9 : PM := pI p 13 36 (v1).toNatClampNeg (cn 0)
    let p10 : PM := pI p9 13 37 (v1).toNatClampNeg (cn 0)
    let p11 : PM := pI p10 13 38 (v1).toNatClampNeg (cn 200)
    let p12 : PM := pI p11 15 9 (v1).toNatClampNeg (cn 0)
    let p13 : PM := pI p12 15 10 (v1).toNatClampNeg (cn 0)
    kv230 p13 (v1 + (cn 1)))
  else (
    let p1 : PM := pI p 12 1 50 (cn 0)
    let p2 : PM := pI p1 12 1 57 (cn (-1))
    let p3 : PM := pI p2 12 1 58 (cn 500)
    let p4 : PM := pI p3 12 1 17 (cn 0)
    let p5 : PM := pI p4 12 1 18 (cn 0)
    let p6 : PM := pI p5 12 1 39 (cn 0)
    let p7 : PM := pI p6 12 1 40 (cn 0)
    let p8 : PM := pI p7 12 1 48 (cn 0)
    p8)
noncomputable def v12_resets_230 (n : Nat) : PM → Int32 → PM := Nat.rec (motive := fun _ => PM → Int32 → PM) (fun p _ => p) (fun _ ih => bv12_resets_230 ih) n
theorem ev12_resets_230 (n : Nat) (p : PM) (v1 : Int32) : v12_resets_230 (n + 1) p v1 = bv12_resets_230 (v12_resets_230 n) p v1 := rfl
noncomputable def bg12_resets_230 (kg230 : PM → Int32 → Prop) (p : PM) (v1 : Int32) : Prop :=
  if v1 < (cn 4) then (
    (inb v1 4) ∧ (
    let p9 : PM := pI p 13 36 (v1).toNatClampNeg (cn 0)
    (inb v1 4) ∧ (
    let p10 : PM := pI p9 13 37 (v1).toNatClampNeg (cn 0)
    (inb v1 4) ∧ (
    let p11 : PM := pI p10 13 38 (v1).toNatClampNeg (cn 200)
    (inb v1 4) ∧ (
    let p12 : PM := pI p11 15 9 (v1).toNatClampNeg (cn 0)
    (inb v1 4) ∧ (
    let p13 : PM := pI p12 15 10 (v1).toNatClampNeg (cn 0)
    kg230 p13 (v1 + (cn 1))))))))
  else (
    let p1 : PM := pI p 12 1 50 (cn 0)
    let p2 : PM := pI p1 12 1 57 (cn (-1))
    let p3 : PM := pI p2 12 1 58 (cn 500)
    let p4 : PM := pI p3 12 1 17 (cn 0)
    let p5 : PM := pI p4 12 1 18 (cn 0)
    let p6 : PM := pI p5 12 1 39 (cn 0)
    let p7 : PM := pI p6 12 1 40 (cn 0)
    let p8 : PM := pI p7 12 1 48 (cn 0)
    True)
noncomputable def g12_resets_230 (n : Nat) : PM → Int32 → Prop := Nat.rec (motive := fun _ => PM → Int32 → Prop) (fun _ _ => False) (fun _ ih => bg12_resets_230 ih) n
theorem eg12_resets_230 (n : Nat) (p : PM) (v1 : Int32) : g12_resets_230 (n + 1) p v1 = bg12_resets_230 (g12_resets_230 n) p v1 := rfl
noncomputable def bv12_resets_209 (kv209 : PM → Int32 → PM) (kv230 : PM → Int32 → PM) (p : PM) (v1 : Int32) : PM :=
  if v1 < (cn 16) then (
    let p1 : PM := pI p 13 35 (v1).toNatClampNeg (cn 0)
    kv209 p1 (v1 + (cn 1)))
  else (
    kv230 p (cn 0))
noncomputable def v12_resets_209 (n : Nat) : PM → Int32 → PM := Nat.rec (motive := fun _ => PM → Int32 → PM) (fun p _ => p) (fun _ ih => bv12_resets_209 ih (v12_resets_230 FU)) n
theorem ev12_resets_209 (n : Nat) (p : PM) (v1 : Int32) : v12_resets_209 (n + 1) p v1 = bv12_resets_209 (v12_resets_209 n) (v12_resets_230 FU) p v1 := rfl
noncomputable def bg12_resets_209 (kg209 : PM → Int32 → Prop) (kg230 : PM → Int32 → Prop) (p : PM) (v1 : Int32) : Prop :=
  if v1 < (cn 16) then (
    (inb v1 16) ∧ (
    let p1 : PM := pI p 13 35 (v1).toNatClampNeg (cn 0)
    kg209 p1 (v1 + (cn 1))))
  else (
    kg230 p (cn 0))
noncomputable def g12_resets_209 (n : Nat) : PM → Int32 → Prop := Nat.rec (motive := fun _ => PM → Int32 → Prop) (fun _ _ => False) (fun _ ih => bg12_resets_209 ih (g12_resets_230 FU)) n
theorem eg12_resets_209 (n : Nat) (p : PM) (v1 : Int32) : g12_resets_209 (n + 1) p v1 = bg12_resets_209 (g12_resets_209 n) (g12_resets_230 FU) p v1 := rfl
noncomputable def bv12_resets_188 (kv188 : PM → Int32 → PM) (kv209 : PM → Int32 → PM) (p : PM) (v1 : Int32) : PM :=
  if v1 < (cn 44) then (
    let p1 : PM := pI p 15 3 (v1).toNatClampNeg (cn 0)
    kv188 p1 (v1 + (cn 1)))
  else (
    kv209 p (cn 0))
noncomputable def v12_resets_188 (n : Nat) : PM → Int32 → PM := Nat.rec (motive := fun _ => PM → Int32 → PM) (fun p _ => p) (fun _ ih => bv12_resets_188 ih (v12_resets_209 FU)) n
theorem ev12_resets_188 (n : Nat) (p : PM) (v1 : Int32) : v12_resets_188 (n + 1) p v1 = bv12_resets_188 (v12_resets_188 n) (v12_resets_209 FU) p v1 := rfl
noncomputable def bg12_resets_188 (kg188 : PM → Int32 → Prop) (kg209 : PM → Int32 → Prop) (p : PM) (v1 : Int32) : Prop :=
  if v1 < (cn 44) then (
    (inb v1 44) ∧ (
    let p1 : PM := pI p 15 3 (v1).toNatClampNeg (cn 0)
    kg188 p1 (v1 + (cn 1))))
  else (
    kg209 p (cn 0))
noncomputable def g12_resets_188 (n : Nat) : PM → Int32 → Prop := Nat.rec (motive := fun _ => PM → Int32 → Prop) (fun _ _ => False) (fun _ ih => bg12_resets_188 ih (g12_resets_209 FU)) n
theorem eg12_resets_188 (n : Nat) (p : PM) (v1 : Int32) : g12_resets_188 (n + 1) p v1 = bg12_resets_188 (g12_resets_188 n) (g12_resets_209 FU) p v1 := rfl
noncomputable def bv12_resets_109 (kv109 : PM → Int32 → PM) (kv188 : PM → Int32 → PM) (p : PM) (v1 : Int32) : PM :=
  if v1 < (cn 6) then (
    let p1 : PM := pI p 13 6 (v1).toNatClampNeg (cn 0)
    let p2 : PM := pI p1 13 7 (v1).toNatClampNeg (cn 0)
    let p3 : PM := pI p2 13 8 (v1).toNatClampNeg (cn 0)
    let p4 : PM := pI p3 13 9 (v1).toNatClampNeg (cn 0)
    if v1 < (cn 4) then (
      let p8 : PM := pI p4 13 10 (v1).toNatClampNeg (cn 100)
      let p9 : PM := pI p8 13 11 (v1).toNatClampNeg (p8.1 13 10 (v1).toNatClampNeg)
      let p10 : PM := pI p9 13 12 (v1).toNatClampNeg (cn (-100000))
      kv109 p10 (v1 + (cn 1)))
    else (
      let p5 : PM := pI p4 13 10 (v1).toNatClampNeg (cn 0)
      let p6 : PM := pI p5 13 11 (v1).toNatClampNeg (p5.1 13 10 (v1).toNatClampNeg)
      let p7 : PM := pI p6 13 12 (v1).toNatClampNeg (cn (-100000))
      kv109 p7 (v1 + (cn 1))))
  else (
    kv188 p (cn 0))
noncomputable def v12_resets_109 (n : Nat) : PM → Int32 → PM := Nat.rec (motive := fun _ => PM → Int32 → PM) (fun p _ => p) (fun _ ih => bv12_resets_109 ih (v12_resets_188 FU)) n
theorem ev12_resets_109 (n : Nat) (p : PM) (v1 : Int32) : v12_resets_109 (n + 1) p v1 = bv12_resets_109 (v12_resets_109 n) (v12_resets_188 FU) p v1 := rfl
noncomputable def bg12_resets_109 (kg109 : PM → Int32 → Prop) (kg188 : PM → Int32 → Prop) (p : PM) (v1 : Int32) : Prop :=
  if v1 < (cn 6) then (
    (inb v1 6) ∧ (
    let p1 : PM := pI p 13 6 (v1).toNatClampNeg (cn 0)
    (inb v1 6) ∧ (
    let p2 : PM := pI p1 13 7 (v1).toNatClampNeg (cn 0)
    (inb v1 6) ∧ (
    let p3 : PM := pI p2 13 8 (v1).toNatClampNeg (cn 0)
    (inb v1 6) ∧ (
    let p4 : PM := pI p3 13 9 (v1).toNatClampNeg (cn 0)
    if v1 < (cn 4) then (
      (inb v1 6) ∧ (
      let p8 : PM := pI p4 13 10 (v1).toNatClampNeg (cn 100)
      (inb v1 6) ∧ (
      (inb v1 6) ∧ (
      let p9 : PM := pI p8 13 11 (v1).toNatClampNeg (p8.1 13 10 (v1).toNatClampNeg)
      (inb v1 6) ∧ (
      let p10 : PM := pI p9 13 12 (v1).toNatClampNeg (cn (-100000))
      kg109 p10 (v1 + (cn 1)))))))
    else (
      (inb v1 6) ∧ (
      let p5 : PM := pI p4 13 10 (v1).toNatClampNeg (cn 0)
      (inb v1 6) ∧ (
      (inb v1 6) ∧ (
      let p6 : PM := pI p5 13 11 (v1).toNatClampNeg (p5.1 13 10 (v1).toNatClampNeg)
      (inb v1 6) ∧ (
      let p7 : PM := pI p6 13 12 (v1).toNatClampNeg (cn (-100000))
      kg109 p7 (v1 + (cn 1))))))))))))
  else (
    kg188 p (cn 0))
noncomputable def g12_resets_109 (n : Nat) : PM → Int32 → Prop := Nat.rec (motive := fun _ => PM → Int32 → Prop) (fun _ _ => False) (fun _ ih => bg12_resets_109 ih (g12_resets_188 FU)) n
theorem eg12_resets_109 (n : Nat) (p : PM) (v1 : Int32) : g12_resets_109 (n + 1) p v1 = bg12_resets_109 (g12_resets_109 n) (g12_resets_188 FU) p v1 := rfl
noncomputable def bv12_resets_67 (kv67 : PM → Int32 → PM) (kv109 : PM → Int32 → PM) (p : PM) (v1 : Int32) : PM :=
  if v1 < (cn 8) then (
    let p1 : PM := pI p 13 3 (v1).toNatClampNeg (cn 0)
    let p2 : PM := pI p1 13 4 (v1).toNatClampNeg (cn 0)
    let p3 : PM := pI p2 15 1 (v1).toNatClampNeg (cn 0)
    let p4 : PM := pI p3 13 5 (v1).toNatClampNeg (cn 0)
    kv67 p4 (v1 + (cn 1)))
  else (
    kv109 p (cn 0))
noncomputable def v12_resets_67 (n : Nat) : PM → Int32 → PM := Nat.rec (motive := fun _ => PM → Int32 → PM) (fun p _ => p) (fun _ ih => bv12_resets_67 ih (v12_resets_109 FU)) n
theorem ev12_resets_67 (n : Nat) (p : PM) (v1 : Int32) : v12_resets_67 (n + 1) p v1 = bv12_resets_67 (v12_resets_67 n) (v12_resets_109 FU) p v1 := rfl
noncomputable def bg12_resets_67 (kg67 : PM → Int32 → Prop) (kg109 : PM → Int32 → Prop) (p : PM) (v1 : Int32) : Prop :=
  if v1 < (cn 8) then (
    (inb v1 8) ∧ (
    let p1 : PM := pI p 13 3 (v1).toNatClampNeg (cn 0)
    (inb v1 8) ∧ (
    let p2 : PM := pI p1 13 4 (v1).toNatClampNeg (cn 0)
    (inb v1 8) ∧ (
    let p3 : PM := pI p2 15 1 (v1).toNatClampNeg (cn 0)
    (inb v1 8) ∧ (
    let p4 : PM := pI p3 13 5 (v1).toNatClampNeg (cn 0)
    kg67 p4 (v1 + (cn 1)))))))
  else (
    kg109 p (cn 0))
noncomputable def g12_resets_67 (n : Nat) : PM → Int32 → Prop := Nat.rec (motive := fun _ => PM → Int32 → Prop) (fun _ _ => False) (fun _ ih => bg12_resets_67 ih (g12_resets_109 FU)) n
theorem eg12_resets_67 (n : Nat) (p : PM) (v1 : Int32) : g12_resets_67 (n + 1) p v1 = bg12_resets_67 (g12_resets_67 n) (g12_resets_109 FU) p v1 := rfl
noncomputable def bv12_resets_44 (kv44 : PM → Int32 → PM) (kv67 : PM → Int32 → PM) (p : PM) (v1 : Int32) : PM :=
  if v1 < (cn 32) then (
    let p1 : PM := pI p 13 2 (v1).toNatClampNeg (cn 999)
    kv44 p1 (v1 + (cn 1)))
  else (
    kv67 p (cn 0))
noncomputable def v12_resets_44 (n : Nat) : PM → Int32 → PM := Nat.rec (motive := fun _ => PM → Int32 → PM) (fun p _ => p) (fun _ ih => bv12_resets_44 ih (v12_resets_67 FU)) n
theorem ev12_resets_44 (n : Nat) (p : PM) (v1 : Int32) : v12_resets_44 (n + 1) p v1 = bv12_resets_44 (v12_resets_44 n) (v12_resets_67 FU) p v1 := rfl
noncomputable def bg12_resets_44 (kg44 : PM → Int32 → Prop) (kg67 : PM → Int32 → Prop) (p : PM) (v1 : Int32) : Prop :=
  if v1 < (cn 32) then (
    (inb v1 32) ∧ (
    let p1 : PM := pI p 13 2 (v1).toNatClampNeg (cn 999)
    kg44 p1 (v1 + (cn 1))))
  else (
    kg67 p (cn 0))
noncomputable def g12_resets_44 (n : Nat) : PM → Int32 → Prop := Nat.rec (motive := fun _ => PM → Int32 → Prop) (fun _ _ => False) (fun _ ih => bg12_resets_44 ih (g12_resets_67 FU)) n
theorem eg12_resets_44 (n : Nat) (p : PM) (v1 : Int32) : g12_resets_44 (n + 1) p v1 = bg12_resets_44 (g12_resets_44 n) (g12_resets_67 FU) p v1 := rfl
noncomputable def bv12_resets_23 (kv23 : PM → Int32 → PM) (kv44 : PM → Int32 → PM) (p : PM) (v1 : Int32) : PM :=
  if v1 < (cn 9) then (
    let p1 : PM := pJ p 14 1 (v1).toNatClampNeg (cl 0)
    kv23 p1 (v1 + (cn 1)))
  else (
    kv44 p (cn 0))
noncomputable def v12_resets_23 (n : Nat) : PM → Int32 → PM := Nat.rec (motive := fun _ => PM → Int32 → PM) (fun p _ => p) (fun _ ih => bv12_resets_23 ih (v12_resets_44 FU)) n
theorem ev12_resets_23 (n : Nat) (p : PM) (v1 : Int32) : v12_resets_23 (n + 1) p v1 = bv12_resets_23 (v12_resets_23 n) (v12_resets_44 FU) p v1 := rfl
noncomputable def bg12_resets_23 (kg23 : PM → Int32 → Prop) (kg44 : PM → Int32 → Prop) (p : PM) (v1 : Int32) : Prop :=
  if v1 < (cn 9) then (
    (inb v1 9) ∧ (
    let p1 : PM := pJ p 14 1 (v1).toNatClampNeg (cl 0)
    kg23 p1 (v1 + (cn 1))))
  else (
    kg44 p (cn 0))
noncomputable def g12_resets_23 (n : Nat) : PM → Int32 → Prop := Nat.rec (motive := fun _ => PM → Int32 → Prop) (fun _ _ => False) (fun _ ih => bg12_resets_23 ih (g12_resets_44 FU)) n
theorem eg12_resets_23 (n : Nat) (p : PM) (v1 : Int32) : g12_resets_23 (n + 1) p v1 = bg12_resets_23 (g12_resets_23 n) (g12_resets_44 FU) p v1 := rfl
noncomputable def bv12_resets_2 (kv2 : PM → Int32 → PM) (kv23 : PM → Int32 → PM) (p : PM) (v1 : Int32) : PM :=
  if v1 < (cn 36) then (
    let p1 : PM := pI p 13 1 (v1).toNatClampNeg (cn 0)
    kv2 p1 (v1 + (cn 1)))
  else (
    kv23 p (cn 0))
noncomputable def v12_resets_2 (n : Nat) : PM → Int32 → PM := Nat.rec (motive := fun _ => PM → Int32 → PM) (fun p _ => p) (fun _ ih => bv12_resets_2 ih (v12_resets_23 FU)) n
theorem ev12_resets_2 (n : Nat) (p : PM) (v1 : Int32) : v12_resets_2 (n + 1) p v1 = bv12_resets_2 (v12_resets_2 n) (v12_resets_23 FU) p v1 := rfl
noncomputable def bg12_resets_2 (kg2 : PM → Int32 → Prop) (kg23 : PM → Int32 → Prop) (p : PM) (v1 : Int32) : Prop :=
  if v1 < (cn 36) then (
    (inb v1 36) ∧ (
    let p1 : PM := pI p 13 1 (v1).toNatClampNeg (cn 0)
    kg2 p1 (v1 + (cn 1))))
  else (
    kg23 p (cn 0))
noncomputable def g12_resets_2 (n : Nat) : PM → Int32 → Prop := Nat.rec (motive := fun _ => PM → Int32 → Prop) (fun _ _ => False) (fun _ ih => bg12_resets_2 ih (g12_resets_23 FU)) n
theorem eg12_resets_2 (n : Nat) (p : PM) (v1 : Int32) : g12_resets_2 (n + 1) p v1 = bg12_resets_2 (g12_resets_2 n) (g12_resets_23 FU) p v1 := rfl
noncomputable def bv12_resets (kv2 : PM → Int32 → PM) (p : PM) : PM :=
  kv2 p (cn 0)
def z0Q (p : PM) : PM := pI (pI p 13 4 8 (cn 0)) 12 1 95 (cn 0)
noncomputable def v12_resets (p : PM) : PM := bv12_resets (v12_resets_2 FU) (z0Q p)
noncomputable def bg12_resets (kg2 : PM → Int32 → Prop) (p : PM) : Prop :=
  kg2 p (cn 0)
noncomputable def g12_resets (p : PM) : Prop := bg12_resets (g12_resets_2 FU) (z0Q p)
noncomputable def bv12_in (p : PM) (v0 : Int32) (v1 : Int32) (v2 : Int32) : Int32 :=
  if v0 < v1 then (
    (cn 0))
  else (
    if v2 < v0 then (
      (cn 0))
    else (
      (cn 1)))
noncomputable def v12_in (p : PM) (v0 : Int32) (v1 : Int32) (v2 : Int32) : Int32 := bv12_in p v0 v1 v2
noncomputable def bg12_in (p : PM) (v0 : Int32) (v1 : Int32) (v2 : Int32) : Prop :=
  if v0 < v1 then (
    True)
  else (
    if v2 < v0 then (
      True)
    else (
      True))
noncomputable def g12_in (p : PM) (v0 : Int32) (v1 : Int32) (v2 : Int32) : Prop := bg12_in p v0 v1 v2
noncomputable def bv12_abs (p : PM) (v0 : Int32) : Int32 :=
  if v0 < 0 then (
    (-v0))
  else (
    v0)
noncomputable def v12_abs (p : PM) (v0 : Int32) : Int32 := bv12_abs p v0
noncomputable def bg12_abs (p : PM) (v0 : Int32) : Prop :=
  if v0 < 0 then (
    True)
  else (
    True)
noncomputable def g12_abs (p : PM) (v0 : Int32) : Prop := bg12_abs p v0
noncomputable def bv12_floor (p : PM) (v0 : Int64) (v2 : Int64) : Int64 :=
  if (lg_cmp (lrm v0 v2) (cl 0)) = 0 then (
    ((v0 / v2) - ((cn 0)).toInt64))
  else (
    if (lg_cmp (lrm v0 v2) (cl 0)) < 0 then (
      if (lg_cmp v2 (cl 0)) < 0 then (
        if (cn 1) = (cn 1) then (
          ((v0 / v2) - ((cn 0)).toInt64))
        else (
          ((v0 / v2) - ((cn 1)).toInt64)))
      else (
        if (cn 1) = (cn 0) then (
          ((v0 / v2) - ((cn 0)).toInt64))
        else (
          ((v0 / v2) - ((cn 1)).toInt64))))
    else (
      if (lg_cmp v2 (cl 0)) < 0 then (
        if (cn 0) = (cn 1) then (
          ((v0 / v2) - ((cn 0)).toInt64))
        else (
          ((v0 / v2) - ((cn 1)).toInt64)))
      else (
        if (cn 0) = (cn 0) then (
          ((v0 / v2) - ((cn 0)).toInt64))
        else (
          ((v0 / v2) - ((cn 1)).toInt64)))))
noncomputable def v12_floor (p : PM) (v0 : Int64) (v2 : Int64) : Int64 := bv12_floor p v0 v2
noncomputable def bg12_floor (p : PM) (v0 : Int64) (v2 : Int64) : Prop :=
  (¬ v2 = 0) ∧ (
  (¬ v2 = 0) ∧ (
  if (lg_cmp (lrm v0 v2) (cl 0)) = 0 then (
    True)
  else (
    (¬ v2 = 0) ∧ (
    if (lg_cmp (lrm v0 v2) (cl 0)) < 0 then (
      if (lg_cmp v2 (cl 0)) < 0 then (
        if (cn 1) = (cn 1) then (
          True)
        else (
          True))
      else (
        if (cn 1) = (cn 0) then (
          True)
        else (
          True)))
    else (
      if (lg_cmp v2 (cl 0)) < 0 then (
        if (cn 0) = (cn 1) then (
          True)
        else (
          True))
      else (
        if (cn 0) = (cn 0) then (
          True)
        else (
          True)))))))
noncomputable def g12_floor (p : PM) (v0 : Int64) (v2 : Int64) : Prop := bg12_floor p v0 v2
noncomputable def bv12_isOpen (p : PM) (v1 : Int32) : Int32 :=
  if (p.1 13 12 (v1).toNatClampNeg) = (cn (-100000)) then (
    (cn 1))
  else (
    (cn 0))
noncomputable def v12_isOpen (p : PM) (v1 : Int32) : Int32 := bv12_isOpen p v1
noncomputable def bg12_isOpen (p : PM) (v1 : Int32) : Prop :=
  (inb v1 6) ∧ (
  if (p.1 13 12 (v1).toNatClampNeg) = (cn (-100000)) then (
    True)
  else (
    True))
noncomputable def g12_isOpen (p : PM) (v1 : Int32) : Prop := bg12_isOpen p v1
noncomputable def bv12_isPrice (p : PM) (F215 : PM → Int32 → Int32 → Int32 → Int32) (v0 : Int32) (v1 : Int32) : Int32 :=
  if v0 < (cn 4) then (
    (F215 p v1 (cn 1) (cn 9999)))
  else (
    (F215 p v1 (cn (-9999)) (cn 9999)))
noncomputable def v12_isPrice (p : PM) (v0 : Int32) (v1 : Int32) : Int32 := bv12_isPrice p v12_in v0 v1
noncomputable def bg12_isPrice (p : PM) (F215 : PM → Int32 → Int32 → Int32 → Int32) (G215 : PM → Int32 → Int32 → Int32 → Prop) (v0 : Int32) (v1 : Int32) : Prop :=
  if v0 < (cn 4) then (
    (G215 p v1 (cn 1) (cn 9999)) ∧ (
    (b01 (F215 p v1 (cn 1) (cn 9999))) ∧ (
    True)))
  else (
    (G215 p v1 (cn (-9999)) (cn 9999)) ∧ (
    (b01 (F215 p v1 (cn (-9999)) (cn 9999))) ∧ (
    True)))
noncomputable def g12_isPrice (p : PM) (v0 : Int32) (v1 : Int32) : Prop := bg12_isPrice p v12_in g12_in v0 v1
noncomputable def bv12_isNear (p : PM) (F216 : PM → Int32 → Int32) (v1 : Int32) (v2 : Int32) : Int32 :=
  if (p.1 13 9 (v1).toNatClampNeg) = 0 then (
    (cn 1))
  else (
    if (p.1 13 9 (v1).toNatClampNeg) < (F216 p (v2 - (p.1 13 11 (v1).toNatClampNeg))) then (
      (cn 0))
    else (
      (cn 1)))
noncomputable def v12_isNear (p : PM) (v1 : Int32) (v2 : Int32) : Int32 := bv12_isNear p v12_abs v1 v2
noncomputable def bg12_isNear (p : PM) (F216 : PM → Int32 → Int32) (G216 : PM → Int32 → Prop) (v1 : Int32) (v2 : Int32) : Prop :=
  (inb v1 6) ∧ (
  if (p.1 13 9 (v1).toNatClampNeg) = 0 then (
    True)
  else (
    (inb v1 6) ∧ (
    (G216 p (v2 - (p.1 13 11 (v1).toNatClampNeg))) ∧ (
    (inb v1 6) ∧ (
    if (p.1 13 9 (v1).toNatClampNeg) < (F216 p (v2 - (p.1 13 11 (v1).toNatClampNeg))) then (
      True)
    else (
      True))))))
noncomputable def g12_isNear (p : PM) (v1 : Int32) (v2 : Int32) : Prop := bg12_isNear p v12_abs g12_abs v1 v2
noncomputable def bv12_contractOf (p : PM) (v0 : Int32) (v1 : Int32) : Int32 :=
  if v0 < (cn 4) then (
    if v1 = 0 then (
      v0)
    else (
      (cn (-1))))
  else (
    if v1 = 0 then (
      (v0 - (cn 4)))
    else (
      (v0 - (cn 3))))
noncomputable def v12_contractOf (p : PM) (v0 : Int32) (v1 : Int32) : Int32 := bv12_contractOf p v0 v1
noncomputable def bg12_contractOf (p : PM) (v0 : Int32) (v1 : Int32) : Prop :=
  if v0 < (cn 4) then (
    if v1 = 0 then (
      True)
    else (
      True))
  else (
    if v1 = 0 then (
      True)
    else (
      True))
noncomputable def g12_contractOf (p : PM) (v0 : Int32) (v1 : Int32) : Prop := bg12_contractOf p v0 v1
noncomputable def bv12_live_4 (p : PM) (kv4 : Int32 → Int32 → Int32) (v1 : Int32) (v2 : Int32) : Int32 :=
  if v2 < (cn 44) then (
    if (p.1 15 3 (v2).toNatClampNeg) = 0 then (
      kv4 (v1 + (cn 0)) (v2 + (cn 1)))
    else (
      kv4 (v1 + (cn 1)) (v2 + (cn 1))))
  else (
    v1)
noncomputable def v12_live_4 (p : PM) (n : Nat) : Int32 → Int32 → Int32 := Nat.rec (motive := fun _ => Int32 → Int32 → Int32) (fun _ _ => 0) (fun _ ih => bv12_live_4 p ih) n
theorem ev12_live_4 (p : PM) (n : Nat) (v1 : Int32) (v2 : Int32) : v12_live_4 p (n + 1) v1 v2 = bv12_live_4 p (v12_live_4 p n) v1 v2 := rfl
noncomputable def bg12_live_4 (p : PM) (kg4 : Int32 → Int32 → Prop) (v1 : Int32) (v2 : Int32) : Prop :=
  if v2 < (cn 44) then (
    (inb v2 44) ∧ (
    if (p.1 15 3 (v2).toNatClampNeg) = 0 then (
      kg4 (v1 + (cn 0)) (v2 + (cn 1)))
    else (
      kg4 (v1 + (cn 1)) (v2 + (cn 1)))))
  else (
    True)
noncomputable def g12_live_4 (p : PM) (n : Nat) : Int32 → Int32 → Prop := Nat.rec (motive := fun _ => Int32 → Int32 → Prop) (fun _ _ => False) (fun _ ih => bg12_live_4 p ih) n
theorem eg12_live_4 (p : PM) (n : Nat) (v1 : Int32) (v2 : Int32) : g12_live_4 p (n + 1) v1 v2 = bg12_live_4 p (g12_live_4 p n) v1 v2 := rfl
noncomputable def bv12_live (p : PM) (kv4 : Int32 → Int32 → Int32) : Int32 :=
  kv4 (cn 0) (cn 0)
noncomputable def v12_live (p : PM) : Int32 := bv12_live p (v12_live_4 p FU)
noncomputable def bg12_live (p : PM) (kg4 : Int32 → Int32 → Prop) : Prop :=
  kg4 (cn 0) (cn 0)
noncomputable def g12_live (p : PM) : Prop := bg12_live p (g12_live_4 p FU)
noncomputable def bv12_placeOf_4 (p : PM) (kv4 : Int32 → Int32 → Int32 → Int32) (v1 : Int32) (v2 : Int32) (v3 : Int32) : Int32 :=
  if v3 < (cn 44) then (
    if (p.1 15 3 (v3).toNatClampNeg) = 0 then (
      kv4 v1 v2 (v3 + (cn 1)))
    else (
      if (p.1 13 14 (v3).toNatClampNeg) = v1 then (
        kv4 v1 v3 (v3 + (cn 1)))
      else (
        kv4 v1 v2 (v3 + (cn 1)))))
  else (
    v2)
noncomputable def v12_placeOf_4 (p : PM) (n : Nat) : Int32 → Int32 → Int32 → Int32 := Nat.rec (motive := fun _ => Int32 → Int32 → Int32 → Int32) (fun _ _ _ => 0) (fun _ ih => bv12_placeOf_4 p ih) n
theorem ev12_placeOf_4 (p : PM) (n : Nat) (v1 : Int32) (v2 : Int32) (v3 : Int32) : v12_placeOf_4 p (n + 1) v1 v2 v3 = bv12_placeOf_4 p (v12_placeOf_4 p n) v1 v2 v3 := rfl
noncomputable def bg12_placeOf_4 (p : PM) (kg4 : Int32 → Int32 → Int32 → Prop) (v1 : Int32) (v2 : Int32) (v3 : Int32) : Prop :=
  if v3 < (cn 44) then (
    (inb v3 44) ∧ (
    if (p.1 15 3 (v3).toNatClampNeg) = 0 then (
      kg4 v1 v2 (v3 + (cn 1)))
    else (
      (inb v3 44) ∧ (
      if (p.1 13 14 (v3).toNatClampNeg) = v1 then (
        kg4 v1 v3 (v3 + (cn 1)))
      else (
        kg4 v1 v2 (v3 + (cn 1)))))))
  else (
    True)
noncomputable def g12_placeOf_4 (p : PM) (n : Nat) : Int32 → Int32 → Int32 → Prop := Nat.rec (motive := fun _ => Int32 → Int32 → Int32 → Prop) (fun _ _ _ => False) (fun _ ih => bg12_placeOf_4 p ih) n
theorem eg12_placeOf_4 (p : PM) (n : Nat) (v1 : Int32) (v2 : Int32) (v3 : Int32) : g12_placeOf_4 p (n + 1) v1 v2 v3 = bg12_placeOf_4 p (g12_placeOf_4 p n) v1 v2 v3 := rfl
noncomputable def bv12_placeOf (p : PM) (kv4 : Int32 → Int32 → Int32 → Int32) (v1 : Int32) : Int32 :=
  kv4 v1 (cn (-1)) (cn 0)
noncomputable def v12_placeOf (p : PM) (v1 : Int32) : Int32 := bv12_placeOf p (v12_placeOf_4 p FU) v1
noncomputable def bg12_placeOf (p : PM) (kg4 : Int32 → Int32 → Int32 → Prop) (v1 : Int32) : Prop :=
  kg4 v1 (cn (-1)) (cn 0)
noncomputable def g12_placeOf (p : PM) (v1 : Int32) : Prop := bg12_placeOf p (g12_placeOf_4 p FU) v1
noncomputable def bv12_newOrder_3 (F216 : PM → Int32 → Int32) (kv3 : PM → Int32 → Int32 → Int32 → Int32 → Int32 → Int32 → Int32 → Int32 → Int32 × PM) (p : PM) (v1 : Int32) (v2 : Int32) (v3 : Int32) (v4 : Int32) (v5 : Int32) (v6 : Int32) (v7 : Int32) (v8 : Int32) : Int32 × PM :=
  if (p.1 15 3 (v8).toNatClampNeg) = 0 then (
    let p1 : PM := pI p 15 3 (v8).toNatClampNeg (cn 1)
    let p2 : PM := pI p1 13 14 (v8).toNatClampNeg (p1.1 12 1 39)
    let p3 : PM := pI p2 12 1 39 ((p2.1 12 1 39) + (cn 1))
    let p4 : PM := pI p3 13 15 (v8).toNatClampNeg v1
    let p5 : PM := pI p4 13 16 (v8).toNatClampNeg v2
    if 0 < v3 then (
      let p17 : PM := pI p5 15 4 (v8).toNatClampNeg (cn 1)
      let p18 : PM := pI p17 13 17 (v8).toNatClampNeg (F216 p17 v3)
      let p19 : PM := pI p18 15 5 (v8).toNatClampNeg v5
      let p20 : PM := pI p19 13 18 (v8).toNatClampNeg v4
      let p21 : PM := pI p20 13 19 (v8).toNatClampNeg v6
      let p22 : PM := pI p21 13 20 (v8).toNatClampNeg v7
      let p23 : PM := pI p22 13 21 (v8).toNatClampNeg (p22.1 13 17 (v8).toNatClampNeg)
      let p24 : PM := pI p23 13 22 (v8).toNatClampNeg (p23.1 13 17 (v8).toNatClampNeg)
      let p25 : PM := pI p24 13 24 (v8).toNatClampNeg (cn 2)
      let p26 : PM := pI p25 13 28 (v8).toNatClampNeg (cn (-1))
      let p27 : PM := pI p26 15 6 (v8).toNatClampNeg (cn 0)
      (v8, pI p27 12 1 95 ((p.1 12 1 95) + (F216 p17 v3))))
    else (
      let p6 : PM := pI p5 15 4 (v8).toNatClampNeg (cn 0)
      let p7 : PM := pI p6 13 17 (v8).toNatClampNeg (F216 p6 v3)
      let p8 : PM := pI p7 15 5 (v8).toNatClampNeg v5
      let p9 : PM := pI p8 13 18 (v8).toNatClampNeg v4
      let p10 : PM := pI p9 13 19 (v8).toNatClampNeg v6
      let p11 : PM := pI p10 13 20 (v8).toNatClampNeg v7
      let p12 : PM := pI p11 13 21 (v8).toNatClampNeg (p11.1 13 17 (v8).toNatClampNeg)
      let p13 : PM := pI p12 13 22 (v8).toNatClampNeg (p12.1 13 17 (v8).toNatClampNeg)
      let p14 : PM := pI p13 13 24 (v8).toNatClampNeg (cn 2)
      let p15 : PM := pI p14 13 28 (v8).toNatClampNeg (cn (-1))
      let p16 : PM := pI p15 15 6 (v8).toNatClampNeg (cn 0)
      (v8, pI p16 12 1 95 ((p.1 12 1 95) + (F216 p6 v3)))))
  else (
    kv3 p v1 v2 v3 v4 v5 v6 v7 (v8 + (cn 1)))
noncomputable def v12_newOrder_3 (n : Nat) : PM → Int32 → Int32 → Int32 → Int32 → Int32 → Int32 → Int32 → Int32 → Int32 × PM := Nat.rec (motive := fun _ => PM → Int32 → Int32 → Int32 → Int32 → Int32 → Int32 → Int32 → Int32 → Int32 × PM) (fun p _ _ _ _ _ _ _ _ => (0, p)) (fun _ ih => bv12_newOrder_3 v12_abs ih) n
theorem ev12_newOrder_3 (n : Nat) (p : PM) (v1 : Int32) (v2 : Int32) (v3 : Int32) (v4 : Int32) (v5 : Int32) (v6 : Int32) (v7 : Int32) (v8 : Int32) : v12_newOrder_3 (n + 1) p v1 v2 v3 v4 v5 v6 v7 v8 = bv12_newOrder_3 v12_abs (v12_newOrder_3 n) p v1 v2 v3 v4 v5 v6 v7 v8 := rfl
noncomputable def bg12_newOrder_3 (F216 : PM → Int32 → Int32) (G216 : PM → Int32 → Prop) (kg3 : PM → Int32 → Int32 → Int32 → Int32 → Int32 → Int32 → Int32 → Int32 → Prop) (p : PM) (v1 : Int32) (v2 : Int32) (v3 : Int32) (v4 : Int32) (v5 : Int32) (v6 : Int32) (v7 : Int32) (v8 : Int32) : Prop :=
  (inb v8 44) ∧ (
  if (p.1 15 3 (v8).toNatClampNeg) = 0 then (
    (inb v8 44) ∧ (
    let p1 : PM := pI p 15 3 (v8).toNatClampNeg (cn 1)
    (inb v8 44) ∧ (
    let p2 : PM := pI p1 13 14 (v8).toNatClampNeg (p1.1 12 1 39)
    let p3 : PM := pI p2 12 1 39 ((p2.1 12 1 39) + (cn 1))
    (inb v8 44) ∧ (
    let p4 : PM := pI p3 13 15 (v8).toNatClampNeg v1
    (inb v8 44) ∧ (
    let p5 : PM := pI p4 13 16 (v8).toNatClampNeg v2
    if 0 < v3 then (
      (inb v8 44) ∧ (
      let p17 : PM := pI p5 15 4 (v8).toNatClampNeg (cn 1)
      (G216 p17 v3) ∧ (
      (inb v8 44) ∧ (
      let p18 : PM := pI p17 13 17 (v8).toNatClampNeg (F216 p17 v3)
      (inb v8 44) ∧ (
      (b01 v5) ∧ (
      let p19 : PM := pI p18 15 5 (v8).toNatClampNeg v5
      (inb v8 44) ∧ (
      let p20 : PM := pI p19 13 18 (v8).toNatClampNeg v4
      (inb v8 44) ∧ (
      let p21 : PM := pI p20 13 19 (v8).toNatClampNeg v6
      (inb v8 44) ∧ (
      let p22 : PM := pI p21 13 20 (v8).toNatClampNeg v7
      (inb v8 44) ∧ (
      (inb v8 44) ∧ (
      let p23 : PM := pI p22 13 21 (v8).toNatClampNeg (p22.1 13 17 (v8).toNatClampNeg)
      (inb v8 44) ∧ (
      (inb v8 44) ∧ (
      let p24 : PM := pI p23 13 22 (v8).toNatClampNeg (p23.1 13 17 (v8).toNatClampNeg)
      (inb v8 44) ∧ (
      let p25 : PM := pI p24 13 24 (v8).toNatClampNeg (cn 2)
      (inb v8 44) ∧ (
      let p26 : PM := pI p25 13 28 (v8).toNatClampNeg (cn (-1))
      (inb v8 44) ∧ (
      let p27 : PM := pI p26 15 6 (v8).toNatClampNeg (cn 0)
      True))))))))))))))))
    else (
      (inb v8 44) ∧ (
      let p6 : PM := pI p5 15 4 (v8).toNatClampNeg (cn 0)
      (G216 p6 v3) ∧ (
      (inb v8 44) ∧ (
      let p7 : PM := pI p6 13 17 (v8).toNatClampNeg (F216 p6 v3)
      (inb v8 44) ∧ (
      (b01 v5) ∧ (
      let p8 : PM := pI p7 15 5 (v8).toNatClampNeg v5
      (inb v8 44) ∧ (
      let p9 : PM := pI p8 13 18 (v8).toNatClampNeg v4
      (inb v8 44) ∧ (
      let p10 : PM := pI p9 13 19 (v8).toNatClampNeg v6
      (inb v8 44) ∧ (
      let p11 : PM := pI p10 13 20 (v8).toNatClampNeg v7
      (inb v8 44) ∧ (
      (inb v8 44) ∧ (
      let p12 : PM := pI p11 13 21 (v8).toNatClampNeg (p11.1 13 17 (v8).toNatClampNeg)
      (inb v8 44) ∧ (
      (inb v8 44) ∧ (
      let p13 : PM := pI p12 13 22 (v8).toNatClampNeg (p12.1 13 17 (v8).toNatClampNeg)
      (inb v8 44) ∧ (
      let p14 : PM := pI p13 13 24 (v8).toNatClampNeg (cn 2)
      (inb v8 44) ∧ (
      let p15 : PM := pI p14 13 28 (v8).toNatClampNeg (cn (-1))
      (inb v8 44) ∧ (
      let p16 : PM := pI p15 15 6 (v8).toNatClampNeg (cn 0)
      True)))))))))))))))))))))
  else (
    kg3 p v1 v2 v3 v4 v5 v6 v7 (v8 + (cn 1))))
noncomputable def g12_newOrder_3 (n : Nat) : PM → Int32 → Int32 → Int32 → Int32 → Int32 → Int32 → Int32 → Int32 → Prop := Nat.rec (motive := fun _ => PM → Int32 → Int32 → Int32 → Int32 → Int32 → Int32 → Int32 → Int32 → Prop) (fun _ _ _ _ _ _ _ _ _ => False) (fun _ ih => bg12_newOrder_3 v12_abs g12_abs ih) n
theorem eg12_newOrder_3 (n : Nat) (p : PM) (v1 : Int32) (v2 : Int32) (v3 : Int32) (v4 : Int32) (v5 : Int32) (v6 : Int32) (v7 : Int32) (v8 : Int32) : g12_newOrder_3 (n + 1) p v1 v2 v3 v4 v5 v6 v7 v8 = bg12_newOrder_3 v12_abs g12_abs (g12_newOrder_3 n) p v1 v2 v3 v4 v5 v6 v7 v8 := rfl
noncomputable def bv12_newOrder (kv3 : PM → Int32 → Int32 → Int32 → Int32 → Int32 → Int32 → Int32 → Int32 → Int32 × PM) (p : PM) (v1 : Int32) (v2 : Int32) (v3 : Int32) (v4 : Int32) (v5 : Int32) (v6 : Int32) (v7 : Int32) : Int32 × PM :=
  kv3 p v1 v2 v3 v4 v5 v6 v7 (cn 0)
noncomputable def v12_newOrder (p : PM) (v1 : Int32) (v2 : Int32) (v3 : Int32) (v4 : Int32) (v5 : Int32) (v6 : Int32) (v7 : Int32) : Int32 × PM := bv12_newOrder (v12_newOrder_3 FU) p v1 v2 v3 v4 v5 v6 v7
noncomputable def bg12_newOrder (kg3 : PM → Int32 → Int32 → Int32 → Int32 → Int32 → Int32 → Int32 → Int32 → Prop) (p : PM) (v1 : Int32) (v2 : Int32) (v3 : Int32) (v4 : Int32) (v5 : Int32) (v6 : Int32) (v7 : Int32) : Prop :=
  kg3 p v1 v2 v3 v4 v5 v6 v7 (cn 0)
noncomputable def g12_newOrder (p : PM) (v1 : Int32) (v2 : Int32) (v3 : Int32) (v4 : Int32) (v5 : Int32) (v6 : Int32) (v7 : Int32) : Prop := bg12_newOrder (g12_newOrder_3 FU) p v1 v2 v3 v4 v5 v6 v7
noncomputable def bv12_newTurn (p : PM) (v1 : Int32) : PM :=
  let p1 : PM := pI p 13 23 (v1).toNatClampNeg (p.1 12 1 40)
  let p2 : PM := pI p1 12 1 40 ((p1.1 12 1 40) + (cn 1))
  p2
noncomputable def v12_newTurn (p : PM) (v1 : Int32) : PM := bv12_newTurn p v1
noncomputable def bg12_newTurn (p : PM) (v1 : Int32) : Prop :=
  (inb v1 44) ∧ (
  let p1 : PM := pI p 13 23 (v1).toNatClampNeg (p.1 12 1 40)
  let p2 : PM := pI p1 12 1 40 ((p1.1 12 1 40) + (cn 1))
  True)
noncomputable def g12_newTurn (p : PM) (v1 : Int32) : Prop := bg12_newTurn p v1
noncomputable def bv12_showsNow (p : PM) (v1 : Int32) : Int32 :=
  if (p.1 13 19 (v1).toNatClampNeg) = (cn 1) then (
    (p.1 13 22 (v1).toNatClampNeg))
  else (
    (p.1 13 17 (v1).toNatClampNeg))
noncomputable def v12_showsNow (p : PM) (v1 : Int32) : Int32 := bv12_showsNow p v1
noncomputable def bg12_showsNow (p : PM) (v1 : Int32) : Prop :=
  (inb v1 44) ∧ (
  if (p.1 13 19 (v1).toNatClampNeg) = (cn 1) then (
    (inb v1 44) ∧ (
    True))
  else (
    (inb v1 44) ∧ (
    True)))
noncomputable def g12_showsNow (p : PM) (v1 : Int32) : Prop := bg12_showsNow p v1
noncomputable def bv12_showsAnew (p : PM) (v1 : Int32) : PM :=
  if (p.1 13 21 (v1).toNatClampNeg) < (p.1 13 17 (v1).toNatClampNeg) then (
    let p2 : PM := pI p 13 22 (v1).toNatClampNeg (p.1 13 21 (v1).toNatClampNeg)
    p2)
  else (
    let p1 : PM := pI p 13 22 (v1).toNatClampNeg (p.1 13 17 (v1).toNatClampNeg)
    p1)
noncomputable def v12_showsAnew (p : PM) (v1 : Int32) : PM := bv12_showsAnew p v1
noncomputable def bg12_showsAnew (p : PM) (v1 : Int32) : Prop :=
  (inb v1 44) ∧ (
  (inb v1 44) ∧ (
  if (p.1 13 21 (v1).toNatClampNeg) < (p.1 13 17 (v1).toNatClampNeg) then (
    (inb v1 44) ∧ (
    (inb v1 44) ∧ (
    let p2 : PM := pI p 13 22 (v1).toNatClampNeg (p.1 13 21 (v1).toNatClampNeg)
    True)))
  else (
    (inb v1 44) ∧ (
    (inb v1 44) ∧ (
    let p1 : PM := pI p 13 22 (v1).toNatClampNeg (p.1 13 17 (v1).toNatClampNeg)
    True)))))
noncomputable def g12_showsAnew (p : PM) (v1 : Int32) : Prop := bg12_showsAnew p v1
noncomputable def bv12_comes (F225 : PM → Int32 → PM) (F227 : PM → Int32 → PM) (p : PM) (v1 : Int32) : PM :=
  let p1 : PM := pI p 13 24 (v1).toNatClampNeg (cn 1)
  let p2 : PM := pI p1 13 25 (v1).toNatClampNeg (p1.1 13 18 (v1).toNatClampNeg)
  let p3 : PM := F227 p2 v1
  let p4 : PM := F225 p3 v1
  p4
noncomputable def v12_comes (p : PM) (v1 : Int32) : PM := bv12_comes v12_newTurn v12_showsAnew p v1
noncomputable def bg12_comes (F225 : PM → Int32 → PM) (G225 : PM → Int32 → Prop) (F227 : PM → Int32 → PM) (G227 : PM → Int32 → Prop) (p : PM) (v1 : Int32) : Prop :=
  (inb v1 44) ∧ (
  let p1 : PM := pI p 13 24 (v1).toNatClampNeg (cn 1)
  (inb v1 44) ∧ (
  (inb v1 44) ∧ (
  let p2 : PM := pI p1 13 25 (v1).toNatClampNeg (p1.1 13 18 (v1).toNatClampNeg)
  (G227 p2 v1) ∧ (
  let p3 : PM := F227 p2 v1
  (G225 p3 v1) ∧ (
  let p4 : PM := F225 p3 v1
  True)))))
noncomputable def g12_comes (p : PM) (v1 : Int32) : Prop := bg12_comes v12_newTurn g12_newTurn v12_showsAnew g12_showsAnew p v1
noncomputable def bv12_restsOf_6 (p : PM) (F221 : PM → Int32 → Int32 → Int32) (kv6 : Int32 → Int32 → Int32 → Int32 → Int32 → Int32) (v1 : Int32) (v2 : Int32) (v3 : Int32) (v4 : Int32) (v5 : Int32) : Int32 :=
  if v5 < (cn 44) then (
    if (p.1 15 3 (v5).toNatClampNeg) = 0 then (
      kv6 v1 v2 v3 v4 (v5 + (cn 1)))
    else (
      if (p.1 13 15 (v5).toNatClampNeg) = v1 then (
        if (F221 p (p.1 13 16 (v5).toNatClampNeg) (cn 0)) = v2 then (
          if (p.1 15 4 (v5).toNatClampNeg) = v3 then (
            if (F221 p (p.1 13 16 (v5).toNatClampNeg) (cn 1)) = v2 then (
              if (p.1 15 4 (v5).toNatClampNeg) = v3 then (
                let x4 : Int32 := (v4 + (p.1 13 17 (v5).toNatClampNeg))
                kv6 v1 v2 v3 x4 (v5 + (cn 1)))
              else (
                let x5 : Int32 := (v4 + (p.1 13 17 (v5).toNatClampNeg))
                kv6 v1 v2 v3 x5 (v5 + (cn 1))))
            else (
              let x3 : Int32 := (v4 + (p.1 13 17 (v5).toNatClampNeg))
              kv6 v1 v2 v3 x3 (v5 + (cn 1))))
          else (
            if (F221 p (p.1 13 16 (v5).toNatClampNeg) (cn 1)) = v2 then (
              if (p.1 15 4 (v5).toNatClampNeg) = v3 then (
                kv6 v1 v2 v3 (v4 + (cn 0)) (v5 + (cn 1)))
              else (
                let x2 : Int32 := (v4 + (p.1 13 17 (v5).toNatClampNeg))
                kv6 v1 v2 v3 x2 (v5 + (cn 1))))
            else (
              kv6 v1 v2 v3 (v4 + (cn 0)) (v5 + (cn 1)))))
        else (
          if (F221 p (p.1 13 16 (v5).toNatClampNeg) (cn 1)) = v2 then (
            if (p.1 15 4 (v5).toNatClampNeg) = v3 then (
              kv6 v1 v2 v3 (v4 + (cn 0)) (v5 + (cn 1)))
            else (
              let x1 : Int32 := (v4 + (p.1 13 17 (v5).toNatClampNeg))
              kv6 v1 v2 v3 x1 (v5 + (cn 1))))
          else (
            kv6 v1 v2 v3 (v4 + (cn 0)) (v5 + (cn 1)))))
      else (
        kv6 v1 v2 v3 v4 (v5 + (cn 1)))))
  else (
    v4)
noncomputable def v12_restsOf_6 (p : PM) (n : Nat) : Int32 → Int32 → Int32 → Int32 → Int32 → Int32 := Nat.rec (motive := fun _ => Int32 → Int32 → Int32 → Int32 → Int32 → Int32) (fun _ _ _ _ _ => 0) (fun _ ih => bv12_restsOf_6 p v12_contractOf ih) n
theorem ev12_restsOf_6 (p : PM) (n : Nat) (v1 : Int32) (v2 : Int32) (v3 : Int32) (v4 : Int32) (v5 : Int32) : v12_restsOf_6 p (n + 1) v1 v2 v3 v4 v5 = bv12_restsOf_6 p v12_contractOf (v12_restsOf_6 p n) v1 v2 v3 v4 v5 := rfl
noncomputable def bg12_restsOf_6 (p : PM) (F221 : PM → Int32 → Int32 → Int32) (G221 : PM → Int32 → Int32 → Prop) (kg6 : Int32 → Int32 → Int32 → Int32 → Int32 → Prop) (v1 : Int32) (v2 : Int32) (v3 : Int32) (v4 : Int32) (v5 : Int32) : Prop :=
  if v5 < (cn 44) then (
    (inb v5 44) ∧ (
    if (p.1 15 3 (v5).toNatClampNeg) = 0 then (
      kg6 v1 v2 v3 v4 (v5 + (cn 1)))
    else (
      (inb v5 44) ∧ (
      if (p.1 13 15 (v5).toNatClampNeg) = v1 then (
        (inb v5 44) ∧ (
        (G221 p (p.1 13 16 (v5).toNatClampNeg) (cn 0)) ∧ (
        if (F221 p (p.1 13 16 (v5).toNatClampNeg) (cn 0)) = v2 then (
          (inb v5 44) ∧ (
          if (p.1 15 4 (v5).toNatClampNeg) = v3 then (
            (inb v5 44) ∧ (
            (G221 p (p.1 13 16 (v5).toNatClampNeg) (cn 1)) ∧ (
            if (F221 p (p.1 13 16 (v5).toNatClampNeg) (cn 1)) = v2 then (
              (inb v5 44) ∧ (
              if (p.1 15 4 (v5).toNatClampNeg) = v3 then (
                (inb v5 44) ∧ (
                let x4 : Int32 := (v4 + (p.1 13 17 (v5).toNatClampNeg))
                kg6 v1 v2 v3 x4 (v5 + (cn 1))))
              else (
                (inb v5 44) ∧ (
                let x5 : Int32 := (v4 + (p.1 13 17 (v5).toNatClampNeg))
                kg6 v1 v2 v3 x5 (v5 + (cn 1))))))
            else (
              (inb v5 44) ∧ (
              let x3 : Int32 := (v4 + (p.1 13 17 (v5).toNatClampNeg))
              kg6 v1 v2 v3 x3 (v5 + (cn 1)))))))
          else (
            (inb v5 44) ∧ (
            (G221 p (p.1 13 16 (v5).toNatClampNeg) (cn 1)) ∧ (
            if (F221 p (p.1 13 16 (v5).toNatClampNeg) (cn 1)) = v2 then (
              (inb v5 44) ∧ (
              if (p.1 15 4 (v5).toNatClampNeg) = v3 then (
                kg6 v1 v2 v3 (v4 + (cn 0)) (v5 + (cn 1)))
              else (
                (inb v5 44) ∧ (
                let x2 : Int32 := (v4 + (p.1 13 17 (v5).toNatClampNeg))
                kg6 v1 v2 v3 x2 (v5 + (cn 1))))))
            else (
              kg6 v1 v2 v3 (v4 + (cn 0)) (v5 + (cn 1))))))))
        else (
          (inb v5 44) ∧ (
          (G221 p (p.1 13 16 (v5).toNatClampNeg) (cn 1)) ∧ (
          if (F221 p (p.1 13 16 (v5).toNatClampNeg) (cn 1)) = v2 then (
            (inb v5 44) ∧ (
            if (p.1 15 4 (v5).toNatClampNeg) = v3 then (
              kg6 v1 v2 v3 (v4 + (cn 0)) (v5 + (cn 1)))
            else (
              (inb v5 44) ∧ (
              let x1 : Int32 := (v4 + (p.1 13 17 (v5).toNatClampNeg))
              kg6 v1 v2 v3 x1 (v5 + (cn 1))))))
          else (
            kg6 v1 v2 v3 (v4 + (cn 0)) (v5 + (cn 1)))))))))
      else (
        kg6 v1 v2 v3 v4 (v5 + (cn 1)))))))
  else (
    True)
noncomputable def g12_restsOf_6 (p : PM) (n : Nat) : Int32 → Int32 → Int32 → Int32 → Int32 → Prop := Nat.rec (motive := fun _ => Int32 → Int32 → Int32 → Int32 → Int32 → Prop) (fun _ _ _ _ _ => False) (fun _ ih => bg12_restsOf_6 p v12_contractOf g12_contractOf ih) n
theorem eg12_restsOf_6 (p : PM) (n : Nat) (v1 : Int32) (v2 : Int32) (v3 : Int32) (v4 : Int32) (v5 : Int32) : g12_restsOf_6 p (n + 1) v1 v2 v3 v4 v5 = bg12_restsOf_6 p v12_contractOf g12_contractOf (g12_restsOf_6 p n) v1 v2 v3 v4 v5 := rfl
noncomputable def bv12_restsOf (p : PM) (kv6 : Int32 → Int32 → Int32 → Int32 → Int32 → Int32) (v1 : Int32) (v2 : Int32) (v3 : Int32) : Int32 :=
  kv6 v1 v2 v3 (cn 0) (cn 0)
noncomputable def v12_restsOf (p : PM) (v1 : Int32) (v2 : Int32) (v3 : Int32) : Int32 := bv12_restsOf p (v12_restsOf_6 p FU) v1 v2 v3
noncomputable def bg12_restsOf (p : PM) (kg6 : Int32 → Int32 → Int32 → Int32 → Int32 → Prop) (v1 : Int32) (v2 : Int32) (v3 : Int32) : Prop :=
  kg6 v1 v2 v3 (cn 0) (cn 0)
noncomputable def g12_restsOf (p : PM) (v1 : Int32) (v2 : Int32) (v3 : Int32) : Prop := bg12_restsOf p (g12_restsOf_6 p FU) v1 v2 v3
noncomputable def bv12_isOver (p : PM) (F229 : PM → Int32 → Int32 → Int32 → Int32) (v1 : Int32) (v2 : Int32) (v3 : Int32) (v4 : Int32) : Int32 :=
  let x1 : Int64 := ((p.1 13 1 ((((cn 4) * v1) + v2)).toNatClampNeg)).toInt64
  if v3 = 0 then (
    let x2 : Int64 := (((-x1) + ((F229 p v1 v2 v3)).toInt64) + (v4).toInt64)
    if 0 < (lg_cmp x2 ((p.1 13 2 ((((cn 4) * v1) + v2)).toNatClampNeg)).toInt64) then (
      (cn 1))
    else (
      (cn 0)))
  else (
    let x3 : Int64 := ((x1 + ((F229 p v1 v2 v3)).toInt64) + (v4).toInt64)
    if 0 < (lg_cmp x3 ((p.1 13 2 ((((cn 4) * v1) + v2)).toNatClampNeg)).toInt64) then (
      (cn 1))
    else (
      (cn 0)))
noncomputable def v12_isOver (p : PM) (v1 : Int32) (v2 : Int32) (v3 : Int32) (v4 : Int32) : Int32 := bv12_isOver p v12_restsOf v1 v2 v3 v4
noncomputable def bg12_isOver (p : PM) (F229 : PM → Int32 → Int32 → Int32 → Int32) (G229 : PM → Int32 → Int32 → Int32 → Prop) (v1 : Int32) (v2 : Int32) (v3 : Int32) (v4 : Int32) : Prop :=
  (inb (((cn 4) * v1) + v2) 36) ∧ (
  let x1 : Int64 := ((p.1 13 1 ((((cn 4) * v1) + v2)).toNatClampNeg)).toInt64
  if v3 = 0 then (
    (G229 p v1 v2 v3) ∧ (
    let x2 : Int64 := (((-x1) + ((F229 p v1 v2 v3)).toInt64) + (v4).toInt64)
    (inb (((cn 4) * v1) + v2) 32) ∧ (
    if 0 < (lg_cmp x2 ((p.1 13 2 ((((cn 4) * v1) + v2)).toNatClampNeg)).toInt64) then (
      True)
    else (
      True))))
  else (
    (G229 p v1 v2 v3) ∧ (
    let x3 : Int64 := ((x1 + ((F229 p v1 v2 v3)).toInt64) + (v4).toInt64)
    (inb (((cn 4) * v1) + v2) 32) ∧ (
    if 0 < (lg_cmp x3 ((p.1 13 2 ((((cn 4) * v1) + v2)).toNatClampNeg)).toInt64) then (
      True)
    else (
      True)))))
noncomputable def g12_isOver (p : PM) (v1 : Int32) (v2 : Int32) (v3 : Int32) (v4 : Int32) : Prop := bg12_isOver p v12_restsOf g12_restsOf v1 v2 v3 v4
noncomputable def bv12_isRefused (p : PM) (F216 : PM → Int32 → Int32) (F221 : PM → Int32 → Int32 → Int32) (F230 : PM → Int32 → Int32 → Int32 → Int32 → Int32) (v1 : Int32) (v2 : Int32) (v3 : Int32) : Int32 :=
  let x1 : Int32 := (F221 p v2 (cn 1))
  if 0 < v3 then (
    if (F230 p v1 (F221 p v2 (cn 0)) (cn 1) (F216 p v3)) = 0 then (
      if x1 < 0 then (
        (cn 0))
      else (
        if v3 < 0 then (
          if (F230 p v1 x1 (cn 1) (F216 p v3)) = 0 then (
            (cn 0))
          else (
            (cn 1)))
        else (
          if (F230 p v1 x1 (cn 0) (F216 p v3)) = 0 then (
            (cn 0))
          else (
            (cn 1)))))
    else (
      (cn 1)))
  else (
    if (F230 p v1 (F221 p v2 (cn 0)) (cn 0) (F216 p v3)) = 0 then (
      if x1 < 0 then (
        (cn 0))
      else (
        if v3 < 0 then (
          if (F230 p v1 x1 (cn 1) (F216 p v3)) = 0 then (
            (cn 0))
          else (
            (cn 1)))
        else (
          if (F230 p v1 x1 (cn 0) (F216 p v3)) = 0 then (
            (cn 0))
          else (
            (cn 1)))))
    else (
      (cn 1)))
noncomputable def v12_isRefused (p : PM) (v1 : Int32) (v2 : Int32) (v3 : Int32) : Int32 := bv12_isRefused p v12_abs v12_contractOf v12_isOver v1 v2 v3
noncomputable def bg12_isRefused (p : PM) (F216 : PM → Int32 → Int32) (G216 : PM → Int32 → Prop) (F221 : PM → Int32 → Int32 → Int32) (G221 : PM → Int32 → Int32 → Prop) (F230 : PM → Int32 → Int32 → Int32 → Int32 → Int32) (G230 : PM → Int32 → Int32 → Int32 → Int32 → Prop) (v1 : Int32) (v2 : Int32) (v3 : Int32) : Prop :=
  (G216 p v3) ∧ (
  (G221 p v2 (cn 1)) ∧ (
  let x1 : Int32 := (F221 p v2 (cn 1))
  (G221 p v2 (cn 0)) ∧ (
  if 0 < v3 then (
    (G230 p v1 (F221 p v2 (cn 0)) (cn 1) (F216 p v3)) ∧ (
    if (F230 p v1 (F221 p v2 (cn 0)) (cn 1) (F216 p v3)) = 0 then (
      if x1 < 0 then (
        True)
      else (
        if v3 < 0 then (
          (G230 p v1 x1 (cn 1) (F216 p v3)) ∧ (
          if (F230 p v1 x1 (cn 1) (F216 p v3)) = 0 then (
            True)
          else (
            True)))
        else (
          (G230 p v1 x1 (cn 0) (F216 p v3)) ∧ (
          if (F230 p v1 x1 (cn 0) (F216 p v3)) = 0 then (
            True)
          else (
            True)))))
    else (
      True)))
  else (
    (G230 p v1 (F221 p v2 (cn 0)) (cn 0) (F216 p v3)) ∧ (
    if (F230 p v1 (F221 p v2 (cn 0)) (cn 0) (F216 p v3)) = 0 then (
      if x1 < 0 then (
        True)
      else (
        if v3 < 0 then (
          (G230 p v1 x1 (cn 1) (F216 p v3)) ∧ (
          if (F230 p v1 x1 (cn 1) (F216 p v3)) = 0 then (
            True)
          else (
            True)))
        else (
          (G230 p v1 x1 (cn 0) (F216 p v3)) ∧ (
          if (F230 p v1 x1 (cn 0) (F216 p v3)) = 0 then (
            True)
          else (
            True)))))
    else (
      True))))))
