/-! the reference as functions, a ghost beside the class (text of wip/whole/lift.py, chosen by wip/p50/ghost.py) -/
noncomputable def v12_doExercise (p : PM) (v1 : Int32) (v2 : Int32) (v3 : Int32) : Int32 × PM := bv12_doExercise v12_in v12_holds (v12_doExercise_117 FU) p v1 v2 v3
noncomputable def bg12_doExercise (F215 : PM → Int32 → Int32 → Int32 → Int32) (G215 : PM → Int32 → Int32 → Int32 → Prop) (F232 : PM → Int32 → Int32 → Int32 → Int32 → PM) (G232 : PM → Int32 → Int32 → Int32 → Int32 → Prop) (kg117 : PM → Int32 → Int32 → Int32 → Int32 → Prop) (p : PM) (v1 : Int32) (v2 : Int32) (v3 : Int32) : Prop :=
  (G215 p v1 (cn 0) (cn 8)) ∧ (
  if (F215 p v1 (cn 0) (cn 8)) = 0 then (
    let p19 : PM := pI p 12 1 0 (cn 1)
    if (p19.1 12 1 0) = 0 then (
      (inb (((cn 4) * v1) + (cn 3)) 36) ∧ (
      (inb (((cn 4) * v1) + (cn 3)) 36) ∧ (
      let p20 : PM := pI p19 13 1 ((((cn 4) * v1) + (cn 3))).toNatClampNeg ((p19.1 13 1 ((((cn 4) * v1) + (cn 3))).toNatClampNeg) - v2)
      (G232 p20 v1 (cn 0) v2 (cn 100)) ∧ (
      let p21 : PM := F232 p20 v1 (cn 0) v2 (cn 100)
      kg117 p21 v2 v3 (cn 0) (cn 0)))))
    else (
      True))
  else (
    (G215 p v2 (cn 1) (cn 99)) ∧ (
    if (F215 p v2 (cn 1) (cn 99)) = 0 then (
      let p1 : PM := pI p 12 1 0 (cn 2)
      if (p1.1 12 1 0) = 0 then (
        (inb (((cn 4) * v1) + (cn 3)) 36) ∧ (
        (inb (((cn 4) * v1) + (cn 3)) 36) ∧ (
        let p2 : PM := pI p1 13 1 ((((cn 4) * v1) + (cn 3))).toNatClampNeg ((p1.1 13 1 ((((cn 4) * v1) + (cn 3))).toNatClampNeg) - v2)
        (G232 p2 v1 (cn 0) v2 (cn 100)) ∧ (
        let p3 : PM := F232 p2 v1 (cn 0) v2 (cn 100)
        kg117 p3 v2 v3 (cn 0) (cn 0)))))
      else (
        True))
    else (
      (G215 p v3 (cn 0) (cn 7874)) ∧ (
      if (F215 p v3 (cn 0) (cn 7874)) = 0 then (
        let p16 : PM := pI p 12 1 0 (cn 2)
        if (p16.1 12 1 0) = 0 then (
          (inb (((cn 4) * v1) + (cn 3)) 36) ∧ (
          (inb (((cn 4) * v1) + (cn 3)) 36) ∧ (
          let p17 : PM := pI p16 13 1 ((((cn 4) * v1) + (cn 3))).toNatClampNeg ((p16.1 13 1 ((((cn 4) * v1) + (cn 3))).toNatClampNeg) - v2)
          (G232 p17 v1 (cn 0) v2 (cn 100)) ∧ (
          let p18 : PM := F232 p17 v1 (cn 0) v2 (cn 100)
          kg117 p18 v2 v3 (cn 0) (cn 0)))))
        else (
          True))
      else (
        (G215 p v1 (cn 0) (cn 8)) ∧ (
        if (F215 p v1 (cn 0) (cn 8)) = 0 then (
          (inb (((cn 4) * (cn 0)) + (cn 3)) 36) ∧ (
          if (p.1 13 1 ((((cn 4) * (cn 0)) + (cn 3))).toNatClampNeg) < v2 then (
            let p7 : PM := pI p 12 1 0 (cn 3)
            if (p7.1 12 1 0) = 0 then (
              (inb (((cn 4) * v1) + (cn 3)) 36) ∧ (
              (inb (((cn 4) * v1) + (cn 3)) 36) ∧ (
              let p8 : PM := pI p7 13 1 ((((cn 4) * v1) + (cn 3))).toNatClampNeg ((p7.1 13 1 ((((cn 4) * v1) + (cn 3))).toNatClampNeg) - v2)
              (G232 p8 v1 (cn 0) v2 (cn 100)) ∧ (
              let p9 : PM := F232 p8 v1 (cn 0) v2 (cn 100)
              kg117 p9 v2 v3 (cn 0) (cn 0)))))
            else (
              True))
          else (
            let p4 : PM := pI p 12 1 0 (cn 0)
            if (p4.1 12 1 0) = 0 then (
              (inb (((cn 4) * v1) + (cn 3)) 36) ∧ (
              (inb (((cn 4) * v1) + (cn 3)) 36) ∧ (
              let p5 : PM := pI p4 13 1 ((((cn 4) * v1) + (cn 3))).toNatClampNeg ((p4.1 13 1 ((((cn 4) * v1) + (cn 3))).toNatClampNeg) - v2)
              (G232 p5 v1 (cn 0) v2 (cn 100)) ∧ (
              let p6 : PM := F232 p5 v1 (cn 0) v2 (cn 100)
              kg117 p6 v2 v3 (cn 0) (cn 0)))))
            else (
              True))))
        else (
          (inb (((cn 4) * v1) + (cn 3)) 36) ∧ (
          if (p.1 13 1 ((((cn 4) * v1) + (cn 3))).toNatClampNeg) < v2 then (
            let p13 : PM := pI p 12 1 0 (cn 3)
            if (p13.1 12 1 0) = 0 then (
              (inb (((cn 4) * v1) + (cn 3)) 36) ∧ (
              (inb (((cn 4) * v1) + (cn 3)) 36) ∧ (
              let p14 : PM := pI p13 13 1 ((((cn 4) * v1) + (cn 3))).toNatClampNeg ((p13.1 13 1 ((((cn 4) * v1) + (cn 3))).toNatClampNeg) - v2)
              (G232 p14 v1 (cn 0) v2 (cn 100)) ∧ (
              let p15 : PM := F232 p14 v1 (cn 0) v2 (cn 100)
              kg117 p15 v2 v3 (cn 0) (cn 0)))))
            else (
              True))
          else (
            let p10 : PM := pI p 12 1 0 (cn 0)
            if (p10.1 12 1 0) = 0 then (
              (inb (((cn 4) * v1) + (cn 3)) 36) ∧ (
              (inb (((cn 4) * v1) + (cn 3)) 36) ∧ (
              let p11 : PM := pI p10 13 1 ((((cn 4) * v1) + (cn 3))).toNatClampNeg ((p10.1 13 1 ((((cn 4) * v1) + (cn 3))).toNatClampNeg) - v2)
              (G232 p11 v1 (cn 0) v2 (cn 100)) ∧ (
              let p12 : PM := F232 p11 v1 (cn 0) v2 (cn 100)
              kg117 p12 v2 v3 (cn 0) (cn 0)))))
            else (
              True)))))))))))
noncomputable def g12_doExercise (p : PM) (v1 : Int32) (v2 : Int32) (v3 : Int32) : Prop := bg12_doExercise v12_in g12_in v12_holds g12_holds (g12_doExercise_117 FU) p v1 v2 v3
noncomputable def bv12_hasContract (p : PM) (F221 : PM → Int32 → Int32 → Int32) (v0 : Int32) (v1 : Int32) : Int32 :=
  if (F221 p v0 (cn 0)) = v1 then (
    (cn 1))
  else (
    if (F221 p v0 (cn 1)) = v1 then (
      (cn 1))
    else (
      (cn 0)))
noncomputable def v12_hasContract (p : PM) (v0 : Int32) (v1 : Int32) : Int32 := bv12_hasContract p v12_contractOf v0 v1
noncomputable def bg12_hasContract (p : PM) (F221 : PM → Int32 → Int32 → Int32) (G221 : PM → Int32 → Int32 → Prop) (v0 : Int32) (v1 : Int32) : Prop :=
  (G221 p v0 (cn 0)) ∧ (
  if (F221 p v0 (cn 0)) = v1 then (
    True)
  else (
    (G221 p v0 (cn 1)) ∧ (
    if (F221 p v0 (cn 1)) = v1 then (
      True)
    else (
      True))))
noncomputable def g12_hasContract (p : PM) (v0 : Int32) (v1 : Int32) : Prop := bg12_hasContract p v12_contractOf g12_contractOf v0 v1
noncomputable def bv12_converted (p : PM) (v0 : Int32) (v1 : Int32) (v2 : Int32) : Int32 :=
  if ((v0 * v2) / v1) < (cn 1) then (
    (cn 1))
  else (
    if (cn 9999) < ((v0 * v2) / v1) then (
      (cn 9999))
    else (
      ((v0 * v2) / v1)))
noncomputable def v12_converted (p : PM) (v0 : Int32) (v1 : Int32) (v2 : Int32) : Int32 := bv12_converted p v0 v1 v2
noncomputable def bg12_converted (p : PM) (v0 : Int32) (v1 : Int32) (v2 : Int32) : Prop :=
  (¬ v1 = 0) ∧ (
  if ((v0 * v2) / v1) < (cn 1) then (
    True)
  else (
    if (cn 9999) < ((v0 * v2) / v1) then (
      True)
    else (
      True)))
noncomputable def g12_converted (p : PM) (v0 : Int32) (v1 : Int32) (v2 : Int32) : Prop := bg12_converted p v0 v1 v2
noncomputable def bv12_doConvert_267 (F217 : PM → Int64 → Int64 → Int64) (kv267 : PM → Int32 → Int32 → Int32 → Int32 → Int64 → Int32 → Int32 × PM) (p : PM) (v1 : Int32) (v2 : Int32) (v3 : Int32) (v4 : Int32) (v5 : Int64) (v7 : Int32) : Int32 × PM :=
  if v7 < (cn 8) then (
    let x2 : Int64 := ((p.1 13 1 ((((cn 4) * v7) + v1)).toNatClampNeg)).toInt64
    let x3 : Int64 := ((x2 * (v2).toInt64) / (v3).toInt64)
    let x4 : Int64 := (F217 p (((x2 * (v2).toInt64) - (x3 * (v3).toInt64)) * ((p.1 13 10 (v1).toNatClampNeg)).toInt64) (v3).toInt64)
    let p5 : PM := pI p 13 1 ((((cn 4) * v7) + v1)).toNatClampNeg (x3).toInt32
    let p6 : PM := pJ p5 14 1 (v7).toNatClampNeg ((p5.2.1 14 1 (v7).toNatClampNeg) + x4)
    let p7 : PM := pJ p6 14 1 8 ((p6.2.1 14 1 8) - x4)
    kv267 p7 v1 v2 v3 v4 (v5 + x3) (v7 + (cn 1)))
  else (
    let p1 : PM := pI p 13 1 (((cn 32) + v1)).toNatClampNeg ((-v5)).toInt32
    (v4, p1))
noncomputable def v12_doConvert_267 (n : Nat) : PM → Int32 → Int32 → Int32 → Int32 → Int64 → Int32 → Int32 × PM := Nat.rec (motive := fun _ => PM → Int32 → Int32 → Int32 → Int32 → Int64 → Int32 → Int32 × PM) (fun p _ _ _ _ _ _ => (0, p)) (fun _ ih => bv12_doConvert_267 v12_floor ih) n
theorem ev12_doConvert_267 (n : Nat) (p : PM) (v1 : Int32) (v2 : Int32) (v3 : Int32) (v4 : Int32) (v5 : Int64) (v7 : Int32) : v12_doConvert_267 (n + 1) p v1 v2 v3 v4 v5 v7 = bv12_doConvert_267 v12_floor (v12_doConvert_267 n) p v1 v2 v3 v4 v5 v7 := rfl
noncomputable def bg12_doConvert_267 (F217 : PM → Int64 → Int64 → Int64) (G217 : PM → Int64 → Int64 → Prop) (kg267 : PM → Int32 → Int32 → Int32 → Int32 → Int64 → Int32 → Prop) (p : PM) (v1 : Int32) (v2 : Int32) (v3 : Int32) (v4 : Int32) (v5 : Int64) (v7 : Int32) : Prop :=
  if v7 < (cn 8) then (
    (inb (((cn 4) * v7) + v1) 36) ∧ (
    let x2 : Int64 := ((p.1 13 1 ((((cn 4) * v7) + v1)).toNatClampNeg)).toInt64
    (¬ (v3).toInt64 = 0) ∧ (
    let x3 : Int64 := ((x2 * (v2).toInt64) / (v3).toInt64)
    (inb v1 6) ∧ (
    (G217 p (((x2 * (v2).toInt64) - (x3 * (v3).toInt64)) * ((p.1 13 10 (v1).toNatClampNeg)).toInt64) (v3).toInt64) ∧ (
    let x4 : Int64 := (F217 p (((x2 * (v2).toInt64) - (x3 * (v3).toInt64)) * ((p.1 13 10 (v1).toNatClampNeg)).toInt64) (v3).toInt64)
    (inb (((cn 4) * v7) + v1) 36) ∧ (
    let p5 : PM := pI p 13 1 ((((cn 4) * v7) + v1)).toNatClampNeg (x3).toInt32
    (inb v7 9) ∧ (
    (inb v7 9) ∧ (
    let p6 : PM := pJ p5 14 1 (v7).toNatClampNeg ((p5.2.1 14 1 (v7).toNatClampNeg) + x4)
    let p7 : PM := pJ p6 14 1 8 ((p6.2.1 14 1 8) - x4)
    kg267 p7 v1 v2 v3 v4 (v5 + x3) (v7 + (cn 1))))))))))
  else (
    (inb ((cn 32) + v1) 36) ∧ (
    let p1 : PM := pI p 13 1 (((cn 32) + v1)).toNatClampNeg ((-v5)).toInt32
    True))
noncomputable def g12_doConvert_267 (n : Nat) : PM → Int32 → Int32 → Int32 → Int32 → Int64 → Int32 → Prop := Nat.rec (motive := fun _ => PM → Int32 → Int32 → Int32 → Int32 → Int64 → Int32 → Prop) (fun _ _ _ _ _ _ _ => False) (fun _ ih => bg12_doConvert_267 v12_floor g12_floor ih) n
theorem eg12_doConvert_267 (n : Nat) (p : PM) (v1 : Int32) (v2 : Int32) (v3 : Int32) (v4 : Int32) (v5 : Int64) (v7 : Int32) : g12_doConvert_267 (n + 1) p v1 v2 v3 v4 v5 v7 = bg12_doConvert_267 v12_floor g12_floor (g12_doConvert_267 n) p v1 v2 v3 v4 v5 v7 := rfl
noncomputable def bv12_doConvert_178 (F304 : PM → Int32 → Int32 → Int32) (F306 : PM → Int32 → Int32 → Int32 → Int32) (kv178 : PM → Int32 → Int32 → Int32 → Int32 → Int32 → Int32 × PM) (kv267 : PM → Int32 → Int32 → Int32 → Int32 → Int64 → Int32 → Int32 × PM) (p : PM) (v1 : Int32) (v2 : Int32) (v3 : Int32) (v4 : Int32) (v5 : Int32) : Int32 × PM :=
  if v5 < (cn 60) then (
    if (p.1 15 8 (v5).toNatClampNeg) = 0 then (
      if (F304 p (p.1 13 30 (v5).toNatClampNeg) v1) = 0 then (
        let p4 : PM := pI p 15 8 (v5).toNatClampNeg (cn 0)
        kv178 p4 v1 v2 v3 v4 (v5 + (cn 1)))
      else (
        let p5 : PM := pI p 15 8 (v5).toNatClampNeg (cn 1)
        kv178 p5 v1 v2 v3 v4 (v5 + (cn 1))))
    else (
      let p3 : PM := pI p 15 8 (v5).toNatClampNeg (cn 1)
      kv178 p3 v1 v2 v3 v4 (v5 + (cn 1))))
  else (
    let p1 : PM := pI p 13 10 (v1).toNatClampNeg (F306 p (p.1 13 10 (v1).toNatClampNeg) v2 v3)
    let p2 : PM := pI p1 13 11 (v1).toNatClampNeg (F306 p1 (p1.1 13 11 (v1).toNatClampNeg) v2 v3)
    kv267 p2 v1 v2 v3 v4 (cl 0) (cn 0))
noncomputable def v12_doConvert_178 (n : Nat) : PM → Int32 → Int32 → Int32 → Int32 → Int32 → Int32 × PM := Nat.rec (motive := fun _ => PM → Int32 → Int32 → Int32 → Int32 → Int32 → Int32 × PM) (fun p _ _ _ _ _ => (0, p)) (fun _ ih => bv12_doConvert_178 v12_hasContract v12_converted ih (v12_doConvert_267 FU)) n
theorem ev12_doConvert_178 (n : Nat) (p : PM) (v1 : Int32) (v2 : Int32) (v3 : Int32) (v4 : Int32) (v5 : Int32) : v12_doConvert_178 (n + 1) p v1 v2 v3 v4 v5 = bv12_doConvert_178 v12_hasContract v12_converted (v12_doConvert_178 n) (v12_doConvert_267 FU) p v1 v2 v3 v4 v5 := rfl
noncomputable def bg12_doConvert_178 (F304 : PM → Int32 → Int32 → Int32) (G304 : PM → Int32 → Int32 → Prop) (F306 : PM → Int32 → Int32 → Int32 → Int32) (G306 : PM → Int32 → Int32 → Int32 → Prop) (kg178 : PM → Int32 → Int32 → Int32 → Int32 → Int32 → Prop) (kg267 : PM → Int32 → Int32 → Int32 → Int32 → Int64 → Int32 → Prop) (p : PM) (v1 : Int32) (v2 : Int32) (v3 : Int32) (v4 : Int32) (v5 : Int32) : Prop :=
  if v5 < (cn 60) then (
    (inb v5 60) ∧ (
    if (p.1 15 8 (v5).toNatClampNeg) = 0 then (
      (inb v5 60) ∧ (
      (G304 p (p.1 13 30 (v5).toNatClampNeg) v1) ∧ (
      if (F304 p (p.1 13 30 (v5).toNatClampNeg) v1) = 0 then (
        (inb v5 60) ∧ (
        let p4 : PM := pI p 15 8 (v5).toNatClampNeg (cn 0)
        kg178 p4 v1 v2 v3 v4 (v5 + (cn 1))))
      else (
        (inb v5 60) ∧ (
        let p5 : PM := pI p 15 8 (v5).toNatClampNeg (cn 1)
        kg178 p5 v1 v2 v3 v4 (v5 + (cn 1)))))))
    else (
      (inb v5 60) ∧ (
      let p3 : PM := pI p 15 8 (v5).toNatClampNeg (cn 1)
      kg178 p3 v1 v2 v3 v4 (v5 + (cn 1))))))
  else (
    (inb v1 6) ∧ (
    (G306 p (p.1 13 10 (v1).toNatClampNeg) v2 v3) ∧ (
    (inb v1 6) ∧ (
    let p1 : PM := pI p 13 10 (v1).toNatClampNeg (F306 p (p.1 13 10 (v1).toNatClampNeg) v2 v3)
    (inb v1 6) ∧ (
    (G306 p1 (p1.1 13 11 (v1).toNatClampNeg) v2 v3) ∧ (
    (inb v1 6) ∧ (
    let p2 : PM := pI p1 13 11 (v1).toNatClampNeg (F306 p1 (p1.1 13 11 (v1).toNatClampNeg) v2 v3)
    kg267 p2 v1 v2 v3 v4 (cl 0) (cn 0))))))))
noncomputable def g12_doConvert_178 (n : Nat) : PM → Int32 → Int32 → Int32 → Int32 → Int32 → Prop := Nat.rec (motive := fun _ => PM → Int32 → Int32 → Int32 → Int32 → Int32 → Prop) (fun _ _ _ _ _ _ => False) (fun _ ih => bg12_doConvert_178 v12_hasContract g12_hasContract v12_converted g12_converted ih (g12_doConvert_267 FU)) n
theorem eg12_doConvert_178 (n : Nat) (p : PM) (v1 : Int32) (v2 : Int32) (v3 : Int32) (v4 : Int32) (v5 : Int32) : g12_doConvert_178 (n + 1) p v1 v2 v3 v4 v5 = bg12_doConvert_178 v12_hasContract g12_hasContract v12_converted g12_converted (g12_doConvert_178 n) (g12_doConvert_267 FU) p v1 v2 v3 v4 v5 := rfl
noncomputable def bv12_doConvert_127 (F304 : PM → Int32 → Int32 → Int32) (kv127 : PM → Int32 → Int32 → Int32 → Int32 → Int32 → Int32 × PM) (kv178 : PM → Int32 → Int32 → Int32 → Int32 → Int32 → Int32 × PM) (p : PM) (v1 : Int32) (v2 : Int32) (v3 : Int32) (v4 : Int32) (v5 : Int32) : Int32 × PM :=
  if v5 < (cn 44) then (
    if (p.1 15 3 (v5).toNatClampNeg) = 0 then (
      kv127 p v1 v2 v3 v4 (v5 + (cn 1)))
    else (
      if (F304 p (p.1 13 16 (v5).toNatClampNeg) v1) = 0 then (
        kv127 p v1 v2 v3 v4 (v5 + (cn 1)))
      else (
        let p1 : PM := pI p 15 3 (v5).toNatClampNeg (cn 0)
        kv127 p1 v1 v2 v3 (v4 + (cn 1)) (v5 + (cn 1)))))
  else (
    kv178 p v1 v2 v3 v4 (cn 0))
noncomputable def v12_doConvert_127 (n : Nat) : PM → Int32 → Int32 → Int32 → Int32 → Int32 → Int32 × PM := Nat.rec (motive := fun _ => PM → Int32 → Int32 → Int32 → Int32 → Int32 → Int32 × PM) (fun p _ _ _ _ _ => (0, p)) (fun _ ih => bv12_doConvert_127 v12_hasContract ih (v12_doConvert_178 FU)) n
theorem ev12_doConvert_127 (n : Nat) (p : PM) (v1 : Int32) (v2 : Int32) (v3 : Int32) (v4 : Int32) (v5 : Int32) : v12_doConvert_127 (n + 1) p v1 v2 v3 v4 v5 = bv12_doConvert_127 v12_hasContract (v12_doConvert_127 n) (v12_doConvert_178 FU) p v1 v2 v3 v4 v5 := rfl
noncomputable def bg12_doConvert_127 (F304 : PM → Int32 → Int32 → Int32) (G304 : PM → Int32 → Int32 → Prop) (kg127 : PM → Int32 → Int32 → Int32 → Int32 → Int32 → Prop) (kg178 : PM → Int32 → Int32 → Int32 → Int32 → Int32 → Prop) (p : PM) (v1 : Int32) (v2 : Int32) (v3 : Int32) (v4 : Int32) (v5 : Int32) : Prop :=
  if v5 < (cn 44) then (
    (inb v5 44) ∧ (
    if (p.1 15 3 (v5).toNatClampNeg) = 0 then (
      kg127 p v1 v2 v3 v4 (v5 + (cn 1)))
    else (
      (inb v5 44) ∧ (
      (G304 p (p.1 13 16 (v5).toNatClampNeg) v1) ∧ (
      if (F304 p (p.1 13 16 (v5).toNatClampNeg) v1) = 0 then (
        kg127 p v1 v2 v3 v4 (v5 + (cn 1)))
      else (
        (inb v5 44) ∧ (
        let p1 : PM := pI p 15 3 (v5).toNatClampNeg (cn 0)
        kg127 p1 v1 v2 v3 (v4 + (cn 1)) (v5 + (cn 1)))))))))
  else (
    kg178 p v1 v2 v3 v4 (cn 0))
noncomputable def g12_doConvert_127 (n : Nat) : PM → Int32 → Int32 → Int32 → Int32 → Int32 → Prop := Nat.rec (motive := fun _ => PM → Int32 → Int32 → Int32 → Int32 → Int32 → Prop) (fun _ _ _ _ _ _ => False) (fun _ ih => bg12_doConvert_127 v12_hasContract g12_hasContract ih (g12_doConvert_178 FU)) n
theorem eg12_doConvert_127 (n : Nat) (p : PM) (v1 : Int32) (v2 : Int32) (v3 : Int32) (v4 : Int32) (v5 : Int32) : g12_doConvert_127 (n + 1) p v1 v2 v3 v4 v5 = bg12_doConvert_127 v12_hasContract g12_hasContract (g12_doConvert_127 n) (g12_doConvert_178 FU) p v1 v2 v3 v4 v5 := rfl
noncomputable def bv12_doConvert_45 (kv45 : PM → Int32 → Int32 → Int32 → Int32 → Int32 × PM) (kv127 : PM → Int32 → Int32 → Int32 → Int32 → Int32 → Int32 × PM) (p : PM) (v1 : Int32) (v2 : Int32) (v3 : Int32) (v4 : Int32) : Int32 × PM :=
  if v4 < (cn 8) then (
    if (p.1 12 1 0) = 0 then (
      let x1 : Int64 := ((((p.1 13 1 ((((cn 4) * v4) + v1)).toNatClampNeg)).toInt64 * (v2).toInt64) / (v3).toInt64)
      if 0 < (lg_cmp x1 (cl 1000000)) then (
        let p2 : PM := pI p 12 1 0 (cn 3)
        kv45 p2 v1 v2 v3 (v4 + (cn 1)))
      else (
        if (lg_cmp x1 (cl (-1000000))) < 0 then (
          let p4 : PM := pI p 12 1 0 (cn 3)
          kv45 p4 v1 v2 v3 (v4 + (cn 1)))
        else (
          let p3 : PM := pI p 12 1 0 (cn 0)
          kv45 p3 v1 v2 v3 (v4 + (cn 1)))))
    else (
      if (p.1 12 1 0) = 0 then (
        kv127 p v1 v2 v3 (cn 0) (cn 0))
      else (
        ((cn 0), p))))
  else (
    if (p.1 12 1 0) = 0 then (
      kv127 p v1 v2 v3 (cn 0) (cn 0))
    else (
      ((cn 0), p)))
noncomputable def v12_doConvert_45 (n : Nat) : PM → Int32 → Int32 → Int32 → Int32 → Int32 × PM := Nat.rec (motive := fun _ => PM → Int32 → Int32 → Int32 → Int32 → Int32 × PM) (fun p _ _ _ _ => (0, p)) (fun _ ih => bv12_doConvert_45 ih (v12_doConvert_127 FU)) n
theorem ev12_doConvert_45 (n : Nat) (p : PM) (v1 : Int32) (v2 : Int32) (v3 : Int32) (v4 : Int32) : v12_doConvert_45 (n + 1) p v1 v2 v3 v4 = bv12_doConvert_45 (v12_doConvert_45 n) (v12_doConvert_127 FU) p v1 v2 v3 v4 := rfl
noncomputable def bg12_doConvert_45 (kg45 : PM → Int32 → Int32 → Int32 → Int32 → Prop) (kg127 : PM → Int32 → Int32 → Int32 → Int32 → Int32 → Prop) (p : PM) (v1 : Int32) (v2 : Int32) (v3 : Int32) (v4 : Int32) : Prop :=
  if v4 < (cn 8) then (
    if (p.1 12 1 0) = 0 then (
      (inb (((cn 4) * v4) + v1) 36) ∧ (
      (¬ (v3).toInt64 = 0) ∧ (
      let x1 : Int64 := ((((p.1 13 1 ((((cn 4) * v4) + v1)).toNatClampNeg)).toInt64 * (v2).toInt64) / (v3).toInt64)
      if 0 < (lg_cmp x1 (cl 1000000)) then (
        let p2 : PM := pI p 12 1 0 (cn 3)
        kg45 p2 v1 v2 v3 (v4 + (cn 1)))
      else (
        if (lg_cmp x1 (cl (-1000000))) < 0 then (
          let p4 : PM := pI p 12 1 0 (cn 3)
          kg45 p4 v1 v2 v3 (v4 + (cn 1)))
        else (
          let p3 : PM := pI p 12 1 0 (cn 0)
          kg45 p3 v1 v2 v3 (v4 + (cn 1)))))))
    else (
      if (p.1 12 1 0) = 0 then (
        kg127 p v1 v2 v3 (cn 0) (cn 0))
      else (
        True)))
  else (
    if (p.1 12 1 0) = 0 then (
      kg127 p v1 v2 v3 (cn 0) (cn 0))
    else (
      True))
noncomputable def g12_doConvert_45 (n : Nat) : PM → Int32 → Int32 → Int32 → Int32 → Prop := Nat.rec (motive := fun _ => PM → Int32 → Int32 → Int32 → Int32 → Prop) (fun _ _ _ _ _ => False) (fun _ ih => bg12_doConvert_45 ih (g12_doConvert_127 FU)) n
theorem eg12_doConvert_45 (n : Nat) (p : PM) (v1 : Int32) (v2 : Int32) (v3 : Int32) (v4 : Int32) : g12_doConvert_45 (n + 1) p v1 v2 v3 v4 = bg12_doConvert_45 (g12_doConvert_45 n) (g12_doConvert_127 FU) p v1 v2 v3 v4 := rfl
noncomputable def bv12_doConvert (F215 : PM → Int32 → Int32 → Int32 → Int32) (kv45 : PM → Int32 → Int32 → Int32 → Int32 → Int32 × PM) (p : PM) (v1 : Int32) (v2 : Int32) (v3 : Int32) : Int32 × PM :=
  if (F215 p v1 (cn 0) (cn 2)) = 0 then (
    let p4 : PM := pI p 12 1 0 (cn 1)
    kv45 p4 v1 v2 v3 (cn 0))
  else (
    if (F215 p v2 (cn 1) (cn 9)) = 0 then (
      let p1 : PM := pI p 12 1 0 (cn 2)
      kv45 p1 v1 v2 v3 (cn 0))
    else (
      if (F215 p v3 (cn 1) (cn 9)) = 0 then (
        let p3 : PM := pI p 12 1 0 (cn 2)
        kv45 p3 v1 v2 v3 (cn 0))
      else (
        let p2 : PM := pI p 12 1 0 (cn 0)
        kv45 p2 v1 v2 v3 (cn 0))))
noncomputable def v12_doConvert (p : PM) (v1 : Int32) (v2 : Int32) (v3 : Int32) : Int32 × PM := bv12_doConvert v12_in (v12_doConvert_45 FU) p v1 v2 v3
noncomputable def bg12_doConvert (F215 : PM → Int32 → Int32 → Int32 → Int32) (G215 : PM → Int32 → Int32 → Int32 → Prop) (kg45 : PM → Int32 → Int32 → Int32 → Int32 → Prop) (p : PM) (v1 : Int32) (v2 : Int32) (v3 : Int32) : Prop :=
  (G215 p v1 (cn 0) (cn 2)) ∧ (
  if (F215 p v1 (cn 0) (cn 2)) = 0 then (
    let p4 : PM := pI p 12 1 0 (cn 1)
    kg45 p4 v1 v2 v3 (cn 0))
  else (
    (G215 p v2 (cn 1) (cn 9)) ∧ (
    if (F215 p v2 (cn 1) (cn 9)) = 0 then (
      let p1 : PM := pI p 12 1 0 (cn 2)
      kg45 p1 v1 v2 v3 (cn 0))
    else (
      (G215 p v3 (cn 1) (cn 9)) ∧ (
      if (F215 p v3 (cn 1) (cn 9)) = 0 then (
        let p3 : PM := pI p 12 1 0 (cn 2)
        kg45 p3 v1 v2 v3 (cn 0))
      else (
        let p2 : PM := pI p 12 1 0 (cn 0)
        kg45 p2 v1 v2 v3 (cn 0)))))))
noncomputable def g12_doConvert (p : PM) (v1 : Int32) (v2 : Int32) (v3 : Int32) : Prop := bg12_doConvert v12_in g12_in (g12_doConvert_45 FU) p v1 v2 v3
noncomputable def bv12_callOf (F279 : PM → Int32 → Int64 → Int64 → Int64 × PM) (p : PM) (v1 : Int32) : Int64 × PM :=
  let r1 : Int64 × PM := F279 p v1 ((p.1 13 36 (v1).toNatClampNeg)).toInt64 ((p.1 13 37 (v1).toNatClampNeg)).toInt64
  (r1.1, r1.2)
noncomputable def v12_callOf (p : PM) (v1 : Int32) : Int64 × PM := bv12_callOf v12_call p v1
noncomputable def bg12_callOf (F279 : PM → Int32 → Int64 → Int64 → Int64 × PM) (G279 : PM → Int32 → Int64 → Int64 → Prop) (p : PM) (v1 : Int32) : Prop :=
  (inb v1 4) ∧ (
  (inb v1 4) ∧ (
  (G279 p v1 ((p.1 13 36 (v1).toNatClampNeg)).toInt64 ((p.1 13 37 (v1).toNatClampNeg)).toInt64) ∧ (
  let r1 : Int64 × PM := F279 p v1 ((p.1 13 36 (v1).toNatClampNeg)).toInt64 ((p.1 13 37 (v1).toNatClampNeg)).toInt64
  True)))
noncomputable def g12_callOf (p : PM) (v1 : Int32) : Prop := bg12_callOf v12_call g12_call p v1
noncomputable def bv12_doPay_89 (F279 : PM → Int32 → Int64 → Int64 → Int64 × PM) (F307 : PM → Int32 → Int64 × PM) (p : PM) (v1 : Int32) (v2 : Int32) (v3 : Int32) : Int64 × PM :=
  if (p.1 12 1 0) = 0 then (
    if v2 < 0 then (
      let r4 : Int64 × PM := F279 p v1 (((p.1 13 36 (v1).toNatClampNeg) + v2)).toInt64 (((p.1 13 37 (v1).toNatClampNeg) + v3)).toInt64
      if 0 < (lg_cmp r4.1 (cl 0)) then (
        let p8 : PM := pI r4.2 12 1 0 (cn 3)
        if (p8.1 12 1 0) = 0 then (
          let p9 : PM := pI p8 13 36 (v1).toNatClampNeg ((p8.1 13 36 (v1).toNatClampNeg) + v2)
          let p10 : PM := pI p9 13 37 (v1).toNatClampNeg ((p9.1 13 37 (v1).toNatClampNeg) + v3)
          let r11 : Int64 × PM := F307 p10 v1
          (r11.1, r11.2))
        else (
          ((cl 0), p8)))
      else (
        if (r4.2.1 12 1 0) = 0 then (
          let p5 : PM := pI r4.2 13 36 (v1).toNatClampNeg ((r4.2.1 13 36 (v1).toNatClampNeg) + v2)
          let p6 : PM := pI p5 13 37 (v1).toNatClampNeg ((p5.1 13 37 (v1).toNatClampNeg) + v3)
          let r7 : Int64 × PM := F307 p6 v1
          (r7.1, r7.2))
        else (
          ((cl 0), r4.2))))
    else (
      if v3 < 0 then (
        let r15 : Int64 × PM := F279 p v1 (((p.1 13 36 (v1).toNatClampNeg) + v2)).toInt64 (((p.1 13 37 (v1).toNatClampNeg) + v3)).toInt64
        if 0 < (lg_cmp r15.1 (cl 0)) then (
          let p19 : PM := pI r15.2 12 1 0 (cn 3)
          if (p19.1 12 1 0) = 0 then (
            let p20 : PM := pI p19 13 36 (v1).toNatClampNeg ((p19.1 13 36 (v1).toNatClampNeg) + v2)
            let p21 : PM := pI p20 13 37 (v1).toNatClampNeg ((p20.1 13 37 (v1).toNatClampNeg) + v3)
            let r22 : Int64 × PM := F307 p21 v1
            (r22.1, r22.2))
          else (
            ((cl 0), p19)))
        else (
          if (r15.2.1 12 1 0) = 0 then (
            let p16 : PM := pI r15.2 13 36 (v1).toNatClampNeg ((r15.2.1 13 36 (v1).toNatClampNeg) + v2)
            let p17 : PM := pI p16 13 37 (v1).toNatClampNeg ((p16.1 13 37 (v1).toNatClampNeg) + v3)
            let r18 : Int64 × PM := F307 p17 v1
            (r18.1, r18.2))
          else (
            ((cl 0), r15.2))))
      else (
        if (p.1 12 1 0) = 0 then (
          let p12 : PM := pI p 13 36 (v1).toNatClampNeg ((p.1 13 36 (v1).toNatClampNeg) + v2)
          let p13 : PM := pI p12 13 37 (v1).toNatClampNeg ((p12.1 13 37 (v1).toNatClampNeg) + v3)
          let r14 : Int64 × PM := F307 p13 v1
          (r14.1, r14.2))
        else (
          ((cl 0), p)))))
  else (
    if (p.1 12 1 0) = 0 then (
      let p1 : PM := pI p 13 36 (v1).toNatClampNeg ((p.1 13 36 (v1).toNatClampNeg) + v2)
      let p2 : PM := pI p1 13 37 (v1).toNatClampNeg ((p1.1 13 37 (v1).toNatClampNeg) + v3)
      let r3 : Int64 × PM := F307 p2 v1
      (r3.1, r3.2))
    else (
      ((cl 0), p)))
noncomputable def v12_doPay_89 (p : PM) (v1 : Int32) (v2 : Int32) (v3 : Int32) : Int64 × PM := bv12_doPay_89 v12_call v12_callOf p v1 v2 v3
noncomputable def bg12_doPay_89 (F279 : PM → Int32 → Int64 → Int64 → Int64 × PM) (G279 : PM → Int32 → Int64 → Int64 → Prop) (F307 : PM → Int32 → Int64 × PM) (G307 : PM → Int32 → Prop) (p : PM) (v1 : Int32) (v2 : Int32) (v3 : Int32) : Prop :=
  if (p.1 12 1 0) = 0 then (
    if v2 < 0 then (
      (inb v1 4) ∧ (
      (inb v1 4) ∧ (
      (G279 p v1 (((p.1 13 36 (v1).toNatClampNeg) + v2)).toInt64 (((p.1 13 37 (v1).toNatClampNeg) + v3)).toInt64) ∧ (
      let r4 : Int64 × PM := F279 p v1 (((p.1 13 36 (v1).toNatClampNeg) + v2)).toInt64 (((p.1 13 37 (v1).toNatClampNeg) + v3)).toInt64
      if 0 < (lg_cmp r4.1 (cl 0)) then (
        let p8 : PM := pI r4.2 12 1 0 (cn 3)
        if (p8.1 12 1 0) = 0 then (
          (inb v1 4) ∧ (
          (inb v1 4) ∧ (
          let p9 : PM := pI p8 13 36 (v1).toNatClampNeg ((p8.1 13 36 (v1).toNatClampNeg) + v2)
          (inb v1 4) ∧ (
          (inb v1 4) ∧ (
          let p10 : PM := pI p9 13 37 (v1).toNatClampNeg ((p9.1 13 37 (v1).toNatClampNeg) + v3)
          (G307 p10 v1) ∧ (
          let r11 : Int64 × PM := F307 p10 v1
          True))))))
        else (
          True))
      else (
        if (r4.2.1 12 1 0) = 0 then (
          (inb v1 4) ∧ (
          (inb v1 4) ∧ (
          let p5 : PM := pI r4.2 13 36 (v1).toNatClampNeg ((r4.2.1 13 36 (v1).toNatClampNeg) + v2)
          (inb v1 4) ∧ (
          (inb v1 4) ∧ (
          let p6 : PM := pI p5 13 37 (v1).toNatClampNeg ((p5.1 13 37 (v1).toNatClampNeg) + v3)
          (G307 p6 v1) ∧ (
          let r7 : Int64 × PM := F307 p6 v1
          True))))))
        else (
          True))))))
    else (
      if v3 < 0 then (
        (inb v1 4) ∧ (
        (inb v1 4) ∧ (
        (G279 p v1 (((p.1 13 36 (v1).toNatClampNeg) + v2)).toInt64 (((p.1 13 37 (v1).toNatClampNeg) + v3)).toInt64) ∧ (
        let r15 : Int64 × PM := F279 p v1 (((p.1 13 36 (v1).toNatClampNeg) + v2)).toInt64 (((p.1 13 37 (v1).toNatClampNeg) + v3)).toInt64
        if 0 < (lg_cmp r15.1 (cl 0)) then (
          let p19 : PM := pI r15.2 12 1 0 (cn 3)
          if (p19.1 12 1 0) = 0 then (
            (inb v1 4) ∧ (
            (inb v1 4) ∧ (
            let p20 : PM := pI p19 13 36 (v1).toNatClampNeg ((p19.1 13 36 (v1).toNatClampNeg) + v2)
            (inb v1 4) ∧ (
            (inb v1 4) ∧ (
            let p21 : PM := pI p20 13 37 (v1).toNatClampNeg ((p20.1 13 37 (v1).toNatClampNeg) + v3)
            (G307 p21 v1) ∧ (
            let r22 : Int64 × PM := F307 p21 v1
            True))))))
          else (
            True))
        else (
          if (r15.2.1 12 1 0) = 0 then (
            (inb v1 4) ∧ (
            (inb v1 4) ∧ (
            let p16 : PM := pI r15.2 13 36 (v1).toNatClampNeg ((r15.2.1 13 36 (v1).toNatClampNeg) + v2)
            (inb v1 4) ∧ (
            (inb v1 4) ∧ (
            let p17 : PM := pI p16 13 37 (v1).toNatClampNeg ((p16.1 13 37 (v1).toNatClampNeg) + v3)
            (G307 p17 v1) ∧ (
            let r18 : Int64 × PM := F307 p17 v1
            True))))))
          else (
            True))))))
      else (
        if (p.1 12 1 0) = 0 then (
          (inb v1 4) ∧ (
          (inb v1 4) ∧ (
          let p12 : PM := pI p 13 36 (v1).toNatClampNeg ((p.1 13 36 (v1).toNatClampNeg) + v2)
          (inb v1 4) ∧ (
          (inb v1 4) ∧ (
          let p13 : PM := pI p12 13 37 (v1).toNatClampNeg ((p12.1 13 37 (v1).toNatClampNeg) + v3)
          (G307 p13 v1) ∧ (
          let r14 : Int64 × PM := F307 p13 v1
          True))))))
        else (
          True))))
  else (
    if (p.1 12 1 0) = 0 then (
      (inb v1 4) ∧ (
      (inb v1 4) ∧ (
      let p1 : PM := pI p 13 36 (v1).toNatClampNeg ((p.1 13 36 (v1).toNatClampNeg) + v2)
      (inb v1 4) ∧ (
      (inb v1 4) ∧ (
      let p2 : PM := pI p1 13 37 (v1).toNatClampNeg ((p1.1 13 37 (v1).toNatClampNeg) + v3)
      (G307 p2 v1) ∧ (
      let r3 : Int64 × PM := F307 p2 v1
      True))))))
    else (
      True))
noncomputable def g12_doPay_89 (p : PM) (v1 : Int32) (v2 : Int32) (v3 : Int32) : Prop := bg12_doPay_89 v12_call g12_call v12_callOf g12_callOf p v1 v2 v3
noncomputable def bv12_doPay_38 (kv89 : PM → Int32 → Int32 → Int32 → Int64 × PM) (p : PM) (v1 : Int32) (v2 : Int32) (v3 : Int32) : Int64 × PM :=
  let p1 : PM := pI p 12 1 0 (cn 2)
  if (p1.1 12 1 0) = 0 then (
    if (p1.1 15 9 (v1).toNatClampNeg) = 0 then (
      if ((p1.1 13 36 (v1).toNatClampNeg) + v2) < 0 then (
        let p3 : PM := pI p1 12 1 0 (cn 3)
        kv89 p3 v1 v2 v3)
      else (
        if ((p1.1 13 37 (v1).toNatClampNeg) + v3) < 0 then (
          let p4 : PM := pI p1 12 1 0 (cn 3)
          kv89 p4 v1 v2 v3)
        else (
          kv89 p1 v1 v2 v3)))
    else (
      let p2 : PM := pI p1 12 1 0 (cn 3)
      kv89 p2 v1 v2 v3))
  else (
    kv89 p1 v1 v2 v3)
noncomputable def v12_doPay_38 (p : PM) (v1 : Int32) (v2 : Int32) (v3 : Int32) : Int64 × PM := bv12_doPay_38 v12_doPay_89 p v1 v2 v3
noncomputable def bg12_doPay_38 (kg89 : PM → Int32 → Int32 → Int32 → Prop) (p : PM) (v1 : Int32) (v2 : Int32) (v3 : Int32) : Prop :=
  let p1 : PM := pI p 12 1 0 (cn 2)
  if (p1.1 12 1 0) = 0 then (
    (inb v1 4) ∧ (
    if (p1.1 15 9 (v1).toNatClampNeg) = 0 then (
      (inb v1 4) ∧ (
      if ((p1.1 13 36 (v1).toNatClampNeg) + v2) < 0 then (
        let p3 : PM := pI p1 12 1 0 (cn 3)
        kg89 p3 v1 v2 v3)
      else (
        (inb v1 4) ∧ (
        if ((p1.1 13 37 (v1).toNatClampNeg) + v3) < 0 then (
          let p4 : PM := pI p1 12 1 0 (cn 3)
          kg89 p4 v1 v2 v3)
        else (
          kg89 p1 v1 v2 v3)))))
    else (
      let p2 : PM := pI p1 12 1 0 (cn 3)
      kg89 p2 v1 v2 v3)))
  else (
    kg89 p1 v1 v2 v3)
noncomputable def g12_doPay_38 (p : PM) (v1 : Int32) (v2 : Int32) (v3 : Int32) : Prop := bg12_doPay_38 g12_doPay_89 p v1 v2 v3
noncomputable def bv12_doPay (F215 : PM → Int32 → Int32 → Int32 → Int32) (kv38 : PM → Int32 → Int32 → Int32 → Int64 × PM) (kv89 : PM → Int32 → Int32 → Int32 → Int64 × PM) (p : PM) (v1 : Int32) (v2 : Int32) (v3 : Int32) : Int64 × PM :=
  if (F215 p v1 (cn 0) (cn 3)) = 0 then (
    let p5 : PM := pI p 12 1 0 (cn 1)
    if (p5.1 12 1 0) = 0 then (
      if (p5.1 15 9 (v1).toNatClampNeg) = 0 then (
        if ((p5.1 13 36 (v1).toNatClampNeg) + v2) < 0 then (
          let p7 : PM := pI p5 12 1 0 (cn 3)
          kv89 p7 v1 v2 v3)
        else (
          if ((p5.1 13 37 (v1).toNatClampNeg) + v3) < 0 then (
            let p8 : PM := pI p5 12 1 0 (cn 3)
            kv89 p8 v1 v2 v3)
          else (
            kv89 p5 v1 v2 v3)))
      else (
        let p6 : PM := pI p5 12 1 0 (cn 3)
        kv89 p6 v1 v2 v3))
    else (
      kv89 p5 v1 v2 v3))
  else (
    if (F215 p v2 (cn (-9999)) (cn 9999)) = 0 then (
      kv38 p v1 v2 v3)
    else (
      if (F215 p v3 (cn (-99)) (cn 99)) = 0 then (
        kv38 p v1 v2 v3)
      else (
        let p1 : PM := pI p 12 1 0 (cn 0)
        if (p1.1 12 1 0) = 0 then (
          if (p1.1 15 9 (v1).toNatClampNeg) = 0 then (
            if ((p1.1 13 36 (v1).toNatClampNeg) + v2) < 0 then (
              let p3 : PM := pI p1 12 1 0 (cn 3)
              kv89 p3 v1 v2 v3)
            else (
              if ((p1.1 13 37 (v1).toNatClampNeg) + v3) < 0 then (
                let p4 : PM := pI p1 12 1 0 (cn 3)
                kv89 p4 v1 v2 v3)
              else (
                kv89 p1 v1 v2 v3)))
          else (
            let p2 : PM := pI p1 12 1 0 (cn 3)
            kv89 p2 v1 v2 v3))
        else (
          kv89 p1 v1 v2 v3))))
noncomputable def v12_doPay (p : PM) (v1 : Int32) (v2 : Int32) (v3 : Int32) : Int64 × PM := bv12_doPay v12_in v12_doPay_38 v12_doPay_89 p v1 v2 v3
noncomputable def bg12_doPay (F215 : PM → Int32 → Int32 → Int32 → Int32) (G215 : PM → Int32 → Int32 → Int32 → Prop) (kg38 : PM → Int32 → Int32 → Int32 → Prop) (kg89 : PM → Int32 → Int32 → Int32 → Prop) (p : PM) (v1 : Int32) (v2 : Int32) (v3 : Int32) : Prop :=
  (G215 p v1 (cn 0) (cn 3)) ∧ (
  if (F215 p v1 (cn 0) (cn 3)) = 0 then (
    let p5 : PM := pI p 12 1 0 (cn 1)
    if (p5.1 12 1 0) = 0 then (
      (inb v1 4) ∧ (
      if (p5.1 15 9 (v1).toNatClampNeg) = 0 then (
        (inb v1 4) ∧ (
        if ((p5.1 13 36 (v1).toNatClampNeg) + v2) < 0 then (
          let p7 : PM := pI p5 12 1 0 (cn 3)
          kg89 p7 v1 v2 v3)
        else (
          (inb v1 4) ∧ (
          if ((p5.1 13 37 (v1).toNatClampNeg) + v3) < 0 then (
            let p8 : PM := pI p5 12 1 0 (cn 3)
            kg89 p8 v1 v2 v3)
          else (
            kg89 p5 v1 v2 v3)))))
      else (
        let p6 : PM := pI p5 12 1 0 (cn 3)
        kg89 p6 v1 v2 v3)))
    else (
      kg89 p5 v1 v2 v3))
  else (
    (G215 p v2 (cn (-9999)) (cn 9999)) ∧ (
    if (F215 p v2 (cn (-9999)) (cn 9999)) = 0 then (
      kg38 p v1 v2 v3)
    else (
      (G215 p v3 (cn (-99)) (cn 99)) ∧ (
      if (F215 p v3 (cn (-99)) (cn 99)) = 0 then (
        kg38 p v1 v2 v3)
      else (
        let p1 : PM := pI p 12 1 0 (cn 0)
        if (p1.1 12 1 0) = 0 then (
          (inb v1 4) ∧ (
          if (p1.1 15 9 (v1).toNatClampNeg) = 0 then (
            (inb v1 4) ∧ (
            if ((p1.1 13 36 (v1).toNatClampNeg) + v2) < 0 then (
              let p3 : PM := pI p1 12 1 0 (cn 3)
              kg89 p3 v1 v2 v3)
            else (
              (inb v1 4) ∧ (
              if ((p1.1 13 37 (v1).toNatClampNeg) + v3) < 0 then (
                let p4 : PM := pI p1 12 1 0 (cn 3)
                kg89 p4 v1 v2 v3)
              else (
                kg89 p1 v1 v2 v3)))))
          else (
            let p2 : PM := pI p1 12 1 0 (cn 3)
            kg89 p2 v1 v2 v3)))
        else (
          kg89 p1 v1 v2 v3)))))))
noncomputable def g12_doPay (p : PM) (v1 : Int32) (v2 : Int32) (v3 : Int32) : Prop := bg12_doPay v12_in g12_in g12_doPay_38 g12_doPay_89 p v1 v2 v3
noncomputable def bv12_doFund_43 (p : PM) (v1 : Int32) (v2 : Int32) (s0 : Int32) : Int32 × PM :=
  let p1 : PM := pI p 12 1 0 s0
  if (p1.1 12 1 0) = 0 then (
    let x3 : Int32 := (p1.1 13 38 (v1).toNatClampNeg)
    if (p1.1 12 1 0) = 0 then (
      let p4 : PM := pI p1 13 38 (v1).toNatClampNeg v2
      (x3, p4))
    else (
      (x3, p1)))
  else (
    if (p1.1 12 1 0) = 0 then (
      let p2 : PM := pI p1 13 38 (v1).toNatClampNeg v2
      ((cn 0), p2))
    else (
      ((cn 0), p1)))
noncomputable def v12_doFund_43 (p : PM) (v1 : Int32) (v2 : Int32) (s0 : Int32) : Int32 × PM := bv12_doFund_43 p v1 v2 s0
noncomputable def bg12_doFund_43 (p : PM) (v1 : Int32) (v2 : Int32) (s0 : Int32) : Prop :=
  let p1 : PM := pI p 12 1 0 s0
  if (p1.1 12 1 0) = 0 then (
    (inb v1 4) ∧ (
    let x3 : Int32 := (p1.1 13 38 (v1).toNatClampNeg)
    if (p1.1 12 1 0) = 0 then (
      (inb v1 4) ∧ (
      let p4 : PM := pI p1 13 38 (v1).toNatClampNeg v2
      True))
    else (
      True)))
  else (
    if (p1.1 12 1 0) = 0 then (
      (inb v1 4) ∧ (
      let p2 : PM := pI p1 13 38 (v1).toNatClampNeg v2
      True))
    else (
      True))
noncomputable def g12_doFund_43 (p : PM) (v1 : Int32) (v2 : Int32) (s0 : Int32) : Prop := bg12_doFund_43 p v1 v2 s0
noncomputable def bv12_doFund (F215 : PM → Int32 → Int32 → Int32 → Int32) (kv43 : PM → Int32 → Int32 → Int32 → Int32 × PM) (p : PM) (v1 : Int32) (v2 : Int32) : Int32 × PM :=
  if (F215 p v1 (cn 0) (cn 3)) = 0 then (
    kv43 p v1 v2 (cn 1))
  else (
    if (F215 p v2 (cn 0) (cn 9999)) = 0 then (
      kv43 p v1 v2 (cn 2))
    else (
      if (p.1 15 9 (v1).toNatClampNeg) = 0 then (
        kv43 p v1 v2 (cn 0))
      else (
        kv43 p v1 v2 (cn 3))))
noncomputable def v12_doFund (p : PM) (v1 : Int32) (v2 : Int32) : Int32 × PM := bv12_doFund v12_in v12_doFund_43 p v1 v2
noncomputable def bg12_doFund (F215 : PM → Int32 → Int32 → Int32 → Int32) (G215 : PM → Int32 → Int32 → Int32 → Prop) (kg43 : PM → Int32 → Int32 → Int32 → Prop) (p : PM) (v1 : Int32) (v2 : Int32) : Prop :=
  (G215 p v1 (cn 0) (cn 3)) ∧ (
  if (F215 p v1 (cn 0) (cn 3)) = 0 then (
    kg43 p v1 v2 (cn 1))
  else (
    (G215 p v2 (cn 0) (cn 9999)) ∧ (
    if (F215 p v2 (cn 0) (cn 9999)) = 0 then (
      kg43 p v1 v2 (cn 2))
    else (
      (inb v1 4) ∧ (
      if (p.1 15 9 (v1).toNatClampNeg) = 0 then (
        kg43 p v1 v2 (cn 0))
      else (
        kg43 p v1 v2 (cn 3)))))))
noncomputable def g12_doFund (p : PM) (v1 : Int32) (v2 : Int32) : Prop := bg12_doFund v12_in g12_in g12_doFund_43 p v1 v2
noncomputable def bv12_doFail_73 (kv73 : PM → Int32 → Int32 → Int32 → Int32 × PM) (p : PM) (v1 : Int32) (v2 : Int32) (v3 : Int32) : Int32 × PM :=
  if v3 < (cn 44) then (
    if (p.1 15 3 (v3).toNatClampNeg) = 0 then (
      kv73 p v1 v2 (v3 + (cn 1)))
    else (
      if ((p.1 13 15 (v3).toNatClampNeg) / (cn 2)) = v1 then (
        let p1 : PM := pI p 15 3 (v3).toNatClampNeg (cn 0)
        kv73 p1 v1 (v2 + (cn 1)) (v3 + (cn 1)))
      else (
        kv73 p v1 v2 (v3 + (cn 1)))))
  else (
    (v2, p))
noncomputable def v12_doFail_73 (n : Nat) : PM → Int32 → Int32 → Int32 → Int32 × PM := Nat.rec (motive := fun _ => PM → Int32 → Int32 → Int32 → Int32 × PM) (fun p _ _ _ => (0, p)) (fun _ ih => bv12_doFail_73 ih) n
theorem ev12_doFail_73 (n : Nat) (p : PM) (v1 : Int32) (v2 : Int32) (v3 : Int32) : v12_doFail_73 (n + 1) p v1 v2 v3 = bv12_doFail_73 (v12_doFail_73 n) p v1 v2 v3 := rfl
noncomputable def bg12_doFail_73 (kg73 : PM → Int32 → Int32 → Int32 → Prop) (p : PM) (v1 : Int32) (v2 : Int32) (v3 : Int32) : Prop :=
  if v3 < (cn 44) then (
    (inb v3 44) ∧ (
    if (p.1 15 3 (v3).toNatClampNeg) = 0 then (
      kg73 p v1 v2 (v3 + (cn 1)))
    else (
      (inb v3 44) ∧ (
      if ((p.1 13 15 (v3).toNatClampNeg) / (cn 2)) = v1 then (
        (inb v3 44) ∧ (
        let p1 : PM := pI p 15 3 (v3).toNatClampNeg (cn 0)
        kg73 p1 v1 (v2 + (cn 1)) (v3 + (cn 1))))
      else (
        kg73 p v1 v2 (v3 + (cn 1)))))))
  else (
    True)
noncomputable def g12_doFail_73 (n : Nat) : PM → Int32 → Int32 → Int32 → Prop := Nat.rec (motive := fun _ => PM → Int32 → Int32 → Int32 → Prop) (fun _ _ _ _ => False) (fun _ ih => bg12_doFail_73 ih) n
theorem eg12_doFail_73 (n : Nat) (p : PM) (v1 : Int32) (v2 : Int32) (v3 : Int32) : g12_doFail_73 (n + 1) p v1 v2 v3 = bg12_doFail_73 (g12_doFail_73 n) p v1 v2 v3 := rfl
noncomputable def bv12_doFail (F215 : PM → Int32 → Int32 → Int32 → Int32) (F307 : PM → Int32 → Int64 × PM) (kv73 : PM → Int32 → Int32 → Int32 → Int32 × PM) (p : PM) (v1 : Int32) : Int32 × PM :=
  if (F215 p v1 (cn 0) (cn 3)) = 0 then (
    let p14 : PM := pI p 12 1 0 (cn 1)
    if (p14.1 12 1 0) = 0 then (
      let p15 : PM := pI p14 15 9 (v1).toNatClampNeg (cn 1)
      let p16 : PM := pI p15 12 1 57 v1
      kv73 p16 v1 (cn 0) (cn 0))
    else (
      ((cn 0), p14)))
  else (
    if (p.1 15 9 (v1).toNatClampNeg) = 0 then (
      let r4 : Int64 × PM := F307 p v1
      if (lg_cmp r4.1 (cl 0)) = 0 then (
        let p5 : PM := pI r4.2 12 1 0 (cn 2)
        if (p5.1 12 1 0) = 0 then (
          let p6 : PM := pI p5 15 9 (v1).toNatClampNeg (cn 1)
          let p7 : PM := pI p6 12 1 57 v1
          kv73 p7 v1 (cn 0) (cn 0))
        else (
          ((cn 0), p5)))
      else (
        if (r4.2.1 12 1 57) < 0 then (
          let p8 : PM := pI r4.2 12 1 0 (cn 0)
          if (p8.1 12 1 0) = 0 then (
            let p9 : PM := pI p8 15 9 (v1).toNatClampNeg (cn 1)
            let p10 : PM := pI p9 12 1 57 v1
            kv73 p10 v1 (cn 0) (cn 0))
          else (
            ((cn 0), p8)))
        else (
          let p11 : PM := pI r4.2 12 1 0 (cn 2)
          if (p11.1 12 1 0) = 0 then (
            let p12 : PM := pI p11 15 9 (v1).toNatClampNeg (cn 1)
            let p13 : PM := pI p12 12 1 57 v1
            kv73 p13 v1 (cn 0) (cn 0))
          else (
            ((cn 0), p11)))))
    else (
      let p1 : PM := pI p 12 1 0 (cn 2)
      if (p1.1 12 1 0) = 0 then (
        let p2 : PM := pI p1 15 9 (v1).toNatClampNeg (cn 1)
        let p3 : PM := pI p2 12 1 57 v1
        kv73 p3 v1 (cn 0) (cn 0))
      else (
        ((cn 0), p1))))
noncomputable def v12_doFail (p : PM) (v1 : Int32) : Int32 × PM := bv12_doFail v12_in v12_callOf (v12_doFail_73 FU) p v1
noncomputable def bg12_doFail (F215 : PM → Int32 → Int32 → Int32 → Int32) (G215 : PM → Int32 → Int32 → Int32 → Prop) (F307 : PM → Int32 → Int64 × PM) (G307 : PM → Int32 → Prop) (kg73 : PM → Int32 → Int32 → Int32 → Prop) (p : PM) (v1 : Int32) : Prop :=
  (G215 p v1 (cn 0) (cn 3)) ∧ (
  if (F215 p v1 (cn 0) (cn 3)) = 0 then (
    let p14 : PM := pI p 12 1 0 (cn 1)
    if (p14.1 12 1 0) = 0 then (
      (inb v1 4) ∧ (
      let p15 : PM := pI p14 15 9 (v1).toNatClampNeg (cn 1)
      let p16 : PM := pI p15 12 1 57 v1
      kg73 p16 v1 (cn 0) (cn 0)))
    else (
      True))
  else (
    (inb v1 4) ∧ (
    if (p.1 15 9 (v1).toNatClampNeg) = 0 then (
      (G307 p v1) ∧ (
      let r4 : Int64 × PM := F307 p v1
      if (lg_cmp r4.1 (cl 0)) = 0 then (
        let p5 : PM := pI r4.2 12 1 0 (cn 2)
        if (p5.1 12 1 0) = 0 then (
          (inb v1 4) ∧ (
          let p6 : PM := pI p5 15 9 (v1).toNatClampNeg (cn 1)
          let p7 : PM := pI p6 12 1 57 v1
          kg73 p7 v1 (cn 0) (cn 0)))
        else (
          True))
      else (
        if (r4.2.1 12 1 57) < 0 then (
          let p8 : PM := pI r4.2 12 1 0 (cn 0)
          if (p8.1 12 1 0) = 0 then (
            (inb v1 4) ∧ (
            let p9 : PM := pI p8 15 9 (v1).toNatClampNeg (cn 1)
            let p10 : PM := pI p9 12 1 57 v1
            kg73 p10 v1 (cn 0) (cn 0)))
          else (
            True))
        else (
          let p11 : PM := pI r4.2 12 1 0 (cn 2)
          if (p11.1 12 1 0) = 0 then (
            (inb v1 4) ∧ (
            let p12 : PM := pI p11 15 9 (v1).toNatClampNeg (cn 1)
            let p13 : PM := pI p12 12 1 57 v1
            kg73 p13 v1 (cn 0) (cn 0)))
          else (
            True)))))
    else (
      let p1 : PM := pI p 12 1 0 (cn 2)
      if (p1.1 12 1 0) = 0 then (
        (inb v1 4) ∧ (
        let p2 : PM := pI p1 15 9 (v1).toNatClampNeg (cn 1)
        let p3 : PM := pI p2 12 1 57 v1
        kg73 p3 v1 (cn 0) (cn 0)))
      else (
        True)))))
noncomputable def g12_doFail (p : PM) (v1 : Int32) : Prop := bg12_doFail v12_in g12_in v12_callOf g12_callOf (g12_doFail_73 FU) p v1
noncomputable def bv12_doBid_83 (kv83 : PM → Int32 → Int32 → Int32 × PM) (p : PM) (v3 : Int32) (v4 : Int32) : Int32 × PM :=
  if v4 < (cn 4) then (
    if (p.1 15 10 (v4).toNatClampNeg) = 0 then (
      kv83 p (v3 + (cn 0)) (v4 + (cn 1)))
    else (
      kv83 p (v3 + (cn 1)) (v4 + (cn 1))))
  else (
    (v3, p))
noncomputable def v12_doBid_83 (n : Nat) : PM → Int32 → Int32 → Int32 × PM := Nat.rec (motive := fun _ => PM → Int32 → Int32 → Int32 × PM) (fun p _ _ => (0, p)) (fun _ ih => bv12_doBid_83 ih) n
theorem ev12_doBid_83 (n : Nat) (p : PM) (v3 : Int32) (v4 : Int32) : v12_doBid_83 (n + 1) p v3 v4 = bv12_doBid_83 (v12_doBid_83 n) p v3 v4 := rfl
noncomputable def bg12_doBid_83 (kg83 : PM → Int32 → Int32 → Prop) (p : PM) (v3 : Int32) (v4 : Int32) : Prop :=
  if v4 < (cn 4) then (
    (inb v4 4) ∧ (
    if (p.1 15 10 (v4).toNatClampNeg) = 0 then (
      kg83 p (v3 + (cn 0)) (v4 + (cn 1)))
    else (
      kg83 p (v3 + (cn 1)) (v4 + (cn 1)))))
  else (
    True)
noncomputable def g12_doBid_83 (n : Nat) : PM → Int32 → Int32 → Prop := Nat.rec (motive := fun _ => PM → Int32 → Int32 → Prop) (fun _ _ _ => False) (fun _ ih => bg12_doBid_83 ih) n
theorem eg12_doBid_83 (n : Nat) (p : PM) (v3 : Int32) (v4 : Int32) : g12_doBid_83 (n + 1) p v3 v4 = bg12_doBid_83 (g12_doBid_83 n) p v3 v4 := rfl
noncomputable def bv12_doBid (F215 : PM → Int32 → Int32 → Int32 → Int32) (kv83 : PM → Int32 → Int32 → Int32 × PM) (p : PM) (v1 : Int32) (v2 : Int32) : Int32 × PM :=
  if (F215 p v1 (cn 0) (cn 3)) = 0 then (
    let p13 : PM := pI p 12 1 0 (cn 1)
    if (p13.1 12 1 0) = 0 then (
      let p14 : PM := pI p13 15 10 (v1).toNatClampNeg (cn 1)
      let p15 : PM := pI p14 13 39 (v1).toNatClampNeg v2
      kv83 p15 (cn 0) (cn 0))
    else (
      ((cn 0), p13)))
  else (
    if (F215 p v2 (cn (-9999)) (cn 9999)) = 0 then (
      let p10 : PM := pI p 12 1 0 (cn 2)
      if (p10.1 12 1 0) = 0 then (
        let p11 : PM := pI p10 15 10 (v1).toNatClampNeg (cn 1)
        let p12 : PM := pI p11 13 39 (v1).toNatClampNeg v2
        kv83 p12 (cn 0) (cn 0))
      else (
        ((cn 0), p10)))
    else (
      if (p.1 12 1 57) < 0 then (
        let p1 : PM := pI p 12 1 0 (cn 3)
        if (p1.1 12 1 0) = 0 then (
          let p2 : PM := pI p1 15 10 (v1).toNatClampNeg (cn 1)
          let p3 : PM := pI p2 13 39 (v1).toNatClampNeg v2
          kv83 p3 (cn 0) (cn 0))
        else (
          ((cn 0), p1)))
      else (
        if (p.1 15 9 (v1).toNatClampNeg) = 0 then (
          let p4 : PM := pI p 12 1 0 (cn 0)
          if (p4.1 12 1 0) = 0 then (
            let p5 : PM := pI p4 15 10 (v1).toNatClampNeg (cn 1)
            let p6 : PM := pI p5 13 39 (v1).toNatClampNeg v2
            kv83 p6 (cn 0) (cn 0))
          else (
            ((cn 0), p4)))
        else (
          let p7 : PM := pI p 12 1 0 (cn 3)
          if (p7.1 12 1 0) = 0 then (
            let p8 : PM := pI p7 15 10 (v1).toNatClampNeg (cn 1)
            let p9 : PM := pI p8 13 39 (v1).toNatClampNeg v2
            kv83 p9 (cn 0) (cn 0))
          else (
            ((cn 0), p7))))))
noncomputable def v12_doBid (p : PM) (v1 : Int32) (v2 : Int32) : Int32 × PM := bv12_doBid v12_in (v12_doBid_83 FU) p v1 v2
noncomputable def bg12_doBid (F215 : PM → Int32 → Int32 → Int32 → Int32) (G215 : PM → Int32 → Int32 → Int32 → Prop) (kg83 : PM → Int32 → Int32 → Prop) (p : PM) (v1 : Int32) (v2 : Int32) : Prop :=
  (G215 p v1 (cn 0) (cn 3)) ∧ (
  if (F215 p v1 (cn 0) (cn 3)) = 0 then (
    let p13 : PM := pI p 12 1 0 (cn 1)
    if (p13.1 12 1 0) = 0 then (
      (inb v1 4) ∧ (
      let p14 : PM := pI p13 15 10 (v1).toNatClampNeg (cn 1)
      (inb v1 4) ∧ (
      let p15 : PM := pI p14 13 39 (v1).toNatClampNeg v2
      kg83 p15 (cn 0) (cn 0))))
    else (
      True))
  else (
    (G215 p v2 (cn (-9999)) (cn 9999)) ∧ (
    if (F215 p v2 (cn (-9999)) (cn 9999)) = 0 then (
      let p10 : PM := pI p 12 1 0 (cn 2)
      if (p10.1 12 1 0) = 0 then (
        (inb v1 4) ∧ (
        let p11 : PM := pI p10 15 10 (v1).toNatClampNeg (cn 1)
        (inb v1 4) ∧ (
        let p12 : PM := pI p11 13 39 (v1).toNatClampNeg v2
        kg83 p12 (cn 0) (cn 0))))
      else (
        True))
    else (
      if (p.1 12 1 57) < 0 then (
        let p1 : PM := pI p 12 1 0 (cn 3)
        if (p1.1 12 1 0) = 0 then (
          (inb v1 4) ∧ (
          let p2 : PM := pI p1 15 10 (v1).toNatClampNeg (cn 1)
          (inb v1 4) ∧ (
          let p3 : PM := pI p2 13 39 (v1).toNatClampNeg v2
          kg83 p3 (cn 0) (cn 0))))
        else (
          True))
      else (
        (inb v1 4) ∧ (
        if (p.1 15 9 (v1).toNatClampNeg) = 0 then (
          let p4 : PM := pI p 12 1 0 (cn 0)
          if (p4.1 12 1 0) = 0 then (
            (inb v1 4) ∧ (
            let p5 : PM := pI p4 15 10 (v1).toNatClampNeg (cn 1)
            (inb v1 4) ∧ (
            let p6 : PM := pI p5 13 39 (v1).toNatClampNeg v2
            kg83 p6 (cn 0) (cn 0))))
          else (
            True))
        else (
          let p7 : PM := pI p 12 1 0 (cn 3)
          if (p7.1 12 1 0) = 0 then (
            (inb v1 4) ∧ (
            let p8 : PM := pI p7 15 10 (v1).toNatClampNeg (cn 1)
            (inb v1 4) ∧ (
            let p9 : PM := pI p8 13 39 (v1).toNatClampNeg v2
            kg83 p9 (cn 0) (cn 0))))
          else (
            True))))))))
