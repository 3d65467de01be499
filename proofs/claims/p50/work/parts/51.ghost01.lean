/-! the reference as functions, a ghost beside the class (text of wip/whole/lift.py, chosen by wip/p50/ghost.py) -/
noncomputable def g12_isRefused (p : PM) (v1 : Int32) (v2 : Int32) (v3 : Int32) : Prop := bg12_isRefused p v12_abs g12_abs v12_contractOf g12_contractOf v12_isOver g12_isOver v1 v2 v3
noncomputable def bv12_holds (F221 : PM → Int32 → Int32 → Int32) (p : PM) (v1 : Int32) (v2 : Int32) (v3 : Int32) (v4 : Int32) : PM :=
  let p1 : PM := pI p 13 1 ((((cn 4) * v1) + (F221 p v2 (cn 0)))).toNatClampNeg ((p.1 13 1 ((((cn 4) * v1) + (F221 p v2 (cn 0)))).toNatClampNeg) + v3)
  if (F221 p1 v2 (cn 1)) < 0 then (
    let p2 : PM := pJ p1 14 1 (v1).toNatClampNeg ((p1.2.1 14 1 (v1).toNatClampNeg) - ((v3).toInt64 * (v4).toInt64))
    p2)
  else (
    let p3 : PM := pI p1 13 1 ((((cn 4) * v1) + (F221 p1 v2 (cn 1)))).toNatClampNeg ((p1.1 13 1 ((((cn 4) * v1) + (F221 p1 v2 (cn 1)))).toNatClampNeg) - v3)
    let p4 : PM := pJ p3 14 1 (v1).toNatClampNeg ((p3.2.1 14 1 (v1).toNatClampNeg) - ((v3).toInt64 * (v4).toInt64))
    p4)
noncomputable def v12_holds (p : PM) (v1 : Int32) (v2 : Int32) (v3 : Int32) (v4 : Int32) : PM := bv12_holds v12_contractOf p v1 v2 v3 v4
noncomputable def bg12_holds (F221 : PM → Int32 → Int32 → Int32) (G221 : PM → Int32 → Int32 → Prop) (p : PM) (v1 : Int32) (v2 : Int32) (v3 : Int32) (v4 : Int32) : Prop :=
  (G221 p v2 (cn 0)) ∧ (
  (inb (((cn 4) * v1) + (F221 p v2 (cn 0))) 36) ∧ (
  (inb (((cn 4) * v1) + (F221 p v2 (cn 0))) 36) ∧ (
  let p1 : PM := pI p 13 1 ((((cn 4) * v1) + (F221 p v2 (cn 0)))).toNatClampNeg ((p.1 13 1 ((((cn 4) * v1) + (F221 p v2 (cn 0)))).toNatClampNeg) + v3)
  (G221 p1 v2 (cn 1)) ∧ (
  if (F221 p1 v2 (cn 1)) < 0 then (
    (inb v1 9) ∧ (
    (inb v1 9) ∧ (
    let p2 : PM := pJ p1 14 1 (v1).toNatClampNeg ((p1.2.1 14 1 (v1).toNatClampNeg) - ((v3).toInt64 * (v4).toInt64))
    True)))
  else (
    (G221 p1 v2 (cn 1)) ∧ (
    (inb (((cn 4) * v1) + (F221 p1 v2 (cn 1))) 36) ∧ (
    (inb (((cn 4) * v1) + (F221 p1 v2 (cn 1))) 36) ∧ (
    let p3 : PM := pI p1 13 1 ((((cn 4) * v1) + (F221 p1 v2 (cn 1)))).toNatClampNeg ((p1.1 13 1 ((((cn 4) * v1) + (F221 p1 v2 (cn 1)))).toNatClampNeg) - v3)
    (inb v1 9) ∧ (
    (inb v1 9) ∧ (
    let p4 : PM := pJ p3 14 1 (v1).toNatClampNeg ((p3.2.1 14 1 (v1).toNatClampNeg) - ((v3).toInt64 * (v4).toInt64))
    True))))))))))
noncomputable def g12_holds (p : PM) (v1 : Int32) (v2 : Int32) (v3 : Int32) (v4 : Int32) : Prop := bg12_holds v12_contractOf g12_contractOf p v1 v2 v3 v4
noncomputable def bv12_deals (F232 : PM → Int32 → Int32 → Int32 → Int32 → PM) (p : PM) (v1 : Int32) (v2 : Int32) (v3 : Int32) (v4 : Int32) (v5 : Int32) : PM :=
  let p1 : PM := F232 p v2 v1 v5 v4
  let p2 : PM := F232 p1 v3 v1 (-v5) v4
  let x3 : Int32 := (irm (p2.1 12 1 48) (cn 60))
  let p4 : PM := pI p2 13 30 (x3).toNatClampNeg v1
  let p5 : PM := pI p4 13 31 (x3).toNatClampNeg v2
  let p6 : PM := pI p5 13 32 (x3).toNatClampNeg v3
  let p7 : PM := pI p6 13 33 (x3).toNatClampNeg v4
  let p8 : PM := pI p7 13 34 (x3).toNatClampNeg v5
  let p9 : PM := pI p8 15 7 (x3).toNatClampNeg (cn 0)
  let p10 : PM := pI p9 15 8 (x3).toNatClampNeg (cn 0)
  let p11 : PM := pI p10 12 1 48 ((p10.1 12 1 48) + (cn 1))
  let p12 : PM := pI p11 13 10 (v1).toNatClampNeg v4
  p12
noncomputable def v12_deals (p : PM) (v1 : Int32) (v2 : Int32) (v3 : Int32) (v4 : Int32) (v5 : Int32) : PM 
  := if (0 ≤ v1.toInt ∧ v1.toInt < 6) ∧ (0 ≤ v2.toInt ∧ v2.toInt < 8) ∧ (0 ≤ v3.toInt ∧ v3.toInt < 8) ∧ (-9999 ≤ v4.toInt ∧ v4.toInt ≤ 9999) ∧ (1 ≤ v5.toInt ∧ v5.toInt ≤ 50) then bv12_deals v12_holds p v1 v2 v3 v4 v5 else p
noncomputable def bg12_deals (F232 : PM → Int32 → Int32 → Int32 → Int32 → PM) (G232 : PM → Int32 → Int32 → Int32 → Int32 → Prop) (p : PM) (v1 : Int32) (v2 : Int32) (v3 : Int32) (v4 : Int32) (v5 : Int32) : Prop :=
  (G232 p v2 v1 v5 v4) ∧ (
  let p1 : PM := F232 p v2 v1 v5 v4
  (G232 p1 v3 v1 (-v5) v4) ∧ (
  let p2 : PM := F232 p1 v3 v1 (-v5) v4
  let x3 : Int32 := (irm (p2.1 12 1 48) (cn 60))
  (inb x3 60) ∧ (
  let p4 : PM := pI p2 13 30 (x3).toNatClampNeg v1
  (inb x3 60) ∧ (
  let p5 : PM := pI p4 13 31 (x3).toNatClampNeg v2
  (inb x3 60) ∧ (
  let p6 : PM := pI p5 13 32 (x3).toNatClampNeg v3
  (inb x3 60) ∧ (
  let p7 : PM := pI p6 13 33 (x3).toNatClampNeg v4
  (inb x3 60) ∧ (
  let p8 : PM := pI p7 13 34 (x3).toNatClampNeg v5
  (inb x3 60) ∧ (
  let p9 : PM := pI p8 15 7 (x3).toNatClampNeg (cn 0)
  (inb x3 60) ∧ (
  let p10 : PM := pI p9 15 8 (x3).toNatClampNeg (cn 0)
  let p11 : PM := pI p10 12 1 48 ((p10.1 12 1 48) + (cn 1))
  (inb v1 6) ∧ (
  let p12 : PM := pI p11 13 10 (v1).toNatClampNeg v4
  True))))))))))
noncomputable def g12_deals (p : PM) (v1 : Int32) (v2 : Int32) (v3 : Int32) (v4 : Int32) (v5 : Int32) : Prop := bg12_deals v12_holds g12_holds p v1 v2 v3 v4 v5
noncomputable def bv12_isKept (p : PM) (v1 : Int32) : Int32 :=
  if v1 < 0 then (
    (cn 0))
  else (
    if v1 < (p.1 12 1 48) then (
      if v1 < ((p.1 12 1 48) - (cn 60)) then (
        (cn 0))
      else (
        if (p.1 15 8 ((irm v1 (cn 60))).toNatClampNeg) = 0 then (
          (cn 1))
        else (
          (cn 0))))
    else (
      (cn 0)))
noncomputable def v12_isKept (p : PM) (v1 : Int32) : Int32 := bv12_isKept p v1
noncomputable def bg12_isKept (p : PM) (v1 : Int32) : Prop :=
  if v1 < 0 then (
    True)
  else (
    if v1 < (p.1 12 1 48) then (
      if v1 < ((p.1 12 1 48) - (cn 60)) then (
        True)
      else (
        (inb (irm v1 (cn 60)) 60) ∧ (
        if (p.1 15 8 ((irm v1 (cn 60))).toNatClampNeg) = 0 then (
          True)
        else (
          True))))
    else (
      True))
noncomputable def g12_isKept (p : PM) (v1 : Int32) : Prop := bg12_isKept p v1
noncomputable def bv12_latest_24 (p : PM) (F234 : PM → Int32 → Int32) (kv24 : Int32 → Int32 → Int32 → Int32) (v1 : Int32) (v2 : Int32) (v3 : Int32) : Int32 :=
  if v3 < (p.1 12 1 48) then (
    if (F234 p v3) = 0 then (
      kv24 v1 v2 (v3 + (cn 1)))
    else (
      if (p.1 13 30 ((irm v3 (cn 60))).toNatClampNeg) = v1 then (
        if (p.1 15 7 ((irm v3 (cn 60))).toNatClampNeg) = 0 then (
          kv24 v1 v3 (v3 + (cn 1)))
        else (
          kv24 v1 v2 (v3 + (cn 1))))
      else (
        kv24 v1 v2 (v3 + (cn 1)))))
  else (
    v2)
noncomputable def v12_latest_24 (p : PM) (n : Nat) : Int32 → Int32 → Int32 → Int32 := Nat.rec (motive := fun _ => Int32 → Int32 → Int32 → Int32) (fun _ _ _ => 0) (fun _ ih => bv12_latest_24 p v12_isKept ih) n
theorem ev12_latest_24 (p : PM) (n : Nat) (v1 : Int32) (v2 : Int32) (v3 : Int32) : v12_latest_24 p (n + 1) v1 v2 v3 = bv12_latest_24 p v12_isKept (v12_latest_24 p n) v1 v2 v3 := rfl
noncomputable def bg12_latest_24 (p : PM) (F234 : PM → Int32 → Int32) (G234 : PM → Int32 → Prop) (kg24 : Int32 → Int32 → Int32 → Prop) (v1 : Int32) (v2 : Int32) (v3 : Int32) : Prop :=
  if v3 < (p.1 12 1 48) then (
    (G234 p v3) ∧ (
    if (F234 p v3) = 0 then (
      kg24 v1 v2 (v3 + (cn 1)))
    else (
      (inb (irm v3 (cn 60)) 60) ∧ (
      if (p.1 13 30 ((irm v3 (cn 60))).toNatClampNeg) = v1 then (
        (inb (irm v3 (cn 60)) 60) ∧ (
        if (p.1 15 7 ((irm v3 (cn 60))).toNatClampNeg) = 0 then (
          kg24 v1 v3 (v3 + (cn 1)))
        else (
          kg24 v1 v2 (v3 + (cn 1)))))
      else (
        kg24 v1 v2 (v3 + (cn 1)))))))
  else (
    True)
noncomputable def g12_latest_24 (p : PM) (n : Nat) : Int32 → Int32 → Int32 → Prop := Nat.rec (motive := fun _ => Int32 → Int32 → Int32 → Prop) (fun _ _ _ => False) (fun _ ih => bg12_latest_24 p v12_isKept g12_isKept ih) n
theorem eg12_latest_24 (p : PM) (n : Nat) (v1 : Int32) (v2 : Int32) (v3 : Int32) : g12_latest_24 p (n + 1) v1 v2 v3 = bg12_latest_24 p v12_isKept g12_isKept (g12_latest_24 p n) v1 v2 v3 := rfl
noncomputable def bv12_latest (p : PM) (kv24 : Int32 → Int32 → Int32 → Int32) (v1 : Int32) : Int32 :=
  if ((p.1 12 1 48) - (cn 60)) < 0 then (
    kv24 v1 (cn (-1)) (cn 0))
  else (
    let x1 : Int32 := ((p.1 12 1 48) - (cn 60))
    kv24 v1 (cn (-1)) x1)
noncomputable def v12_latest (p : PM) (v1 : Int32) : Int32 := bv12_latest p (v12_latest_24 p FU) v1
noncomputable def bg12_latest (p : PM) (kg24 : Int32 → Int32 → Int32 → Prop) (v1 : Int32) : Prop :=
  if ((p.1 12 1 48) - (cn 60)) < 0 then (
    kg24 v1 (cn (-1)) (cn 0))
  else (
    let x1 : Int32 := ((p.1 12 1 48) - (cn 60))
    kg24 v1 (cn (-1)) x1)
noncomputable def g12_latest (p : PM) (v1 : Int32) : Prop := bg12_latest p (g12_latest_24 p FU) v1
def aB (n : Int32) : Int32 := if n < 0 then -n else n
/-- a count that stops at 1000000000 -/
def stA (z n : Int32) : Int32 := cn (min 1000000000 (z.toInt + (n.toInt.natAbs : Int)))
noncomputable def bv12_falls (p : PM) (v1 : Int32) (v2 : Int32) (v3 : Int32) : PM :=
  let p1 : PM := pI p 13 17 (v1).toNatClampNeg ((p.1 13 17 (v1).toNatClampNeg) - v2)
  if v3 = 0 then (
    let p2 : PM := pI p1 13 22 (v1).toNatClampNeg ((p1.1 13 22 (v1).toNatClampNeg) - (cn 0))
    let p3 : PM := pI p2 15 6 (v1).toNatClampNeg (cn 1)
    if (p3.1 13 19 (v1).toNatClampNeg) = (cn 4) then (
      let p7 : PM := pI (pI p3 13 4 ((p3.1 13 15 (v1).toNatClampNeg)).toNatClampNeg ((p3.1 13 4 ((p3.1 13 15 (v1).toNatClampNeg)).toNatClampNeg) + v2)) 13 4 8 (stA (p.1 13 4 8) v2)
      if 0 < (p7.1 13 17 (v1).toNatClampNeg) then (
        let p9 : PM := pI p7 15 3 (v1).toNatClampNeg (cn 1)
        p9)
      else (
        let p8 : PM := pI p7 15 3 (v1).toNatClampNeg (cn 0)
        p8))
    else (
      let p4 : PM := pI (pI p3 13 4 ((p3.1 13 15 (v1).toNatClampNeg)).toNatClampNeg ((p3.1 13 4 ((p3.1 13 15 (v1).toNatClampNeg)).toNatClampNeg) + (cn 0))) 13 4 8 (stA (p.1 13 4 8) v2)
      if 0 < (p4.1 13 17 (v1).toNatClampNeg) then (
        let p6 : PM := pI p4 15 3 (v1).toNatClampNeg (cn 1)
        p6)
      else (
        let p5 : PM := pI p4 15 3 (v1).toNatClampNeg (cn 0)
        p5)))
  else (
    let p10 : PM := pI p1 13 22 (v1).toNatClampNeg ((p1.1 13 22 (v1).toNatClampNeg) - v2)
    let p11 : PM := pI p10 15 6 (v1).toNatClampNeg (cn 1)
    if (p11.1 13 19 (v1).toNatClampNeg) = (cn 4) then (
      let p15 : PM := pI (pI p11 13 4 ((p11.1 13 15 (v1).toNatClampNeg)).toNatClampNeg ((p11.1 13 4 ((p11.1 13 15 (v1).toNatClampNeg)).toNatClampNeg) + v2)) 13 4 8 (stA (p.1 13 4 8) v2)
      if 0 < (p15.1 13 17 (v1).toNatClampNeg) then (
        let p17 : PM := pI p15 15 3 (v1).toNatClampNeg (cn 1)
        p17)
      else (
        let p16 : PM := pI p15 15 3 (v1).toNatClampNeg (cn 0)
        p16))
    else (
      let p12 : PM := pI (pI p11 13 4 ((p11.1 13 15 (v1).toNatClampNeg)).toNatClampNeg ((p11.1 13 4 ((p11.1 13 15 (v1).toNatClampNeg)).toNatClampNeg) + (cn 0))) 13 4 8 (stA (p.1 13 4 8) v2)
      if 0 < (p12.1 13 17 (v1).toNatClampNeg) then (
        let p14 : PM := pI p12 15 3 (v1).toNatClampNeg (cn 1)
        p14)
      else (
        let p13 : PM := pI p12 15 3 (v1).toNatClampNeg (cn 0)
        p13)))
noncomputable def v12_falls (p : PM) (v1 : Int32) (v2 : Int32) (v3 : Int32) : PM := bv12_falls p v1 v2 v3
noncomputable def bg12_falls (p : PM) (v1 : Int32) (v2 : Int32) (v3 : Int32) : Prop :=
  (inb v1 44) ∧ (
  (inb v1 44) ∧ (
  let p1 : PM := pI p 13 17 (v1).toNatClampNeg ((p.1 13 17 (v1).toNatClampNeg) - v2)
  (inb v1 44) ∧ (
  if v3 = 0 then (
    (inb v1 44) ∧ (
    let p2 : PM := pI p1 13 22 (v1).toNatClampNeg ((p1.1 13 22 (v1).toNatClampNeg) - (cn 0))
    (inb v1 44) ∧ (
    let p3 : PM := pI p2 15 6 (v1).toNatClampNeg (cn 1)
    (inb v1 44) ∧ (
    (inb (p3.1 13 15 (v1).toNatClampNeg) 8) ∧ (
    (inb v1 44) ∧ (
    if (p3.1 13 19 (v1).toNatClampNeg) = (cn 4) then (
      (inb (p3.1 13 15 (v1).toNatClampNeg) 8) ∧ (
      let p7 : PM := pI p3 13 4 ((p3.1 13 15 (v1).toNatClampNeg)).toNatClampNeg ((p3.1 13 4 ((p3.1 13 15 (v1).toNatClampNeg)).toNatClampNeg) + v2)
      (inb v1 44) ∧ (
      if 0 < (p7.1 13 17 (v1).toNatClampNeg) then (
        (inb v1 44) ∧ (
        let p9 : PM := pI p7 15 3 (v1).toNatClampNeg (cn 1)
        True))
      else (
        (inb v1 44) ∧ (
        let p8 : PM := pI p7 15 3 (v1).toNatClampNeg (cn 0)
        True)))))
    else (
      (inb (p3.1 13 15 (v1).toNatClampNeg) 8) ∧ (
      let p4 : PM := pI p3 13 4 ((p3.1 13 15 (v1).toNatClampNeg)).toNatClampNeg ((p3.1 13 4 ((p3.1 13 15 (v1).toNatClampNeg)).toNatClampNeg) + (cn 0))
      (inb v1 44) ∧ (
      if 0 < (p4.1 13 17 (v1).toNatClampNeg) then (
        (inb v1 44) ∧ (
        let p6 : PM := pI p4 15 3 (v1).toNatClampNeg (cn 1)
        True))
      else (
        (inb v1 44) ∧ (
        let p5 : PM := pI p4 15 3 (v1).toNatClampNeg (cn 0)
        True)))))))))))
  else (
    (inb v1 44) ∧ (
    let p10 : PM := pI p1 13 22 (v1).toNatClampNeg ((p1.1 13 22 (v1).toNatClampNeg) - v2)
    (inb v1 44) ∧ (
    let p11 : PM := pI p10 15 6 (v1).toNatClampNeg (cn 1)
    (inb v1 44) ∧ (
    (inb (p11.1 13 15 (v1).toNatClampNeg) 8) ∧ (
    (inb v1 44) ∧ (
    if (p11.1 13 19 (v1).toNatClampNeg) = (cn 4) then (
      (inb (p11.1 13 15 (v1).toNatClampNeg) 8) ∧ (
      let p15 : PM := pI p11 13 4 ((p11.1 13 15 (v1).toNatClampNeg)).toNatClampNeg ((p11.1 13 4 ((p11.1 13 15 (v1).toNatClampNeg)).toNatClampNeg) + v2)
      (inb v1 44) ∧ (
      if 0 < (p15.1 13 17 (v1).toNatClampNeg) then (
        (inb v1 44) ∧ (
        let p17 : PM := pI p15 15 3 (v1).toNatClampNeg (cn 1)
        True))
      else (
        (inb v1 44) ∧ (
        let p16 : PM := pI p15 15 3 (v1).toNatClampNeg (cn 0)
        True)))))
    else (
      (inb (p11.1 13 15 (v1).toNatClampNeg) 8) ∧ (
      let p12 : PM := pI p11 13 4 ((p11.1 13 15 (v1).toNatClampNeg)).toNatClampNeg ((p11.1 13 4 ((p11.1 13 15 (v1).toNatClampNeg)).toNatClampNeg) + (cn 0))
      (inb v1 44) ∧ (
      if 0 < (p12.1 13 17 (v1).toNatClampNeg) then (
        (inb v1 44) ∧ (
        let p14 : PM := pI p12 15 3 (v1).toNatClampNeg (cn 1)
        True))
      else (
        (inb v1 44) ∧ (
        let p13 : PM := pI p12 15 3 (v1).toNatClampNeg (cn 0)
        True))))))))))))))
noncomputable def g12_falls (p : PM) (v1 : Int32) (v2 : Int32) (v3 : Int32) : Prop := bg12_falls p v1 v2 v3
noncomputable def bv12_guards_50 (kv50 : PM → Int32 → Int32 → PM) (p : PM) (v2 : Int32) (v3 : Int32) : PM :=
  if v3 < (cn 44) then (
    if (p.1 15 3 (v3).toNatClampNeg) = 0 then (
      let p1 : PM := pI p 15 3 (v3).toNatClampNeg (cn 0)
      kv50 p1 v2 (v3 + (cn 1)))
    else (
      if (p.1 13 15 (v3).toNatClampNeg) = v2 then (
        if (p.1 13 19 (v3).toNatClampNeg) = (cn 4) then (
          let p3 : PM := pI p 15 3 (v3).toNatClampNeg (cn 0)
          kv50 p3 v2 (v3 + (cn 1)))
        else (
          let p4 : PM := pI p 15 3 (v3).toNatClampNeg (cn 1)
          kv50 p4 v2 (v3 + (cn 1))))
      else (
        let p2 : PM := pI p 15 3 (v3).toNatClampNeg (cn 1)
        kv50 p2 v2 (v3 + (cn 1)))))
  else (
    p)
noncomputable def v12_guards_50 (n : Nat) : PM → Int32 → Int32 → PM := Nat.rec (motive := fun _ => PM → Int32 → Int32 → PM) (fun p _ _ => p) (fun _ ih => bv12_guards_50 ih) n
theorem ev12_guards_50 (n : Nat) (p : PM) (v2 : Int32) (v3 : Int32) : v12_guards_50 (n + 1) p v2 v3 = bv12_guards_50 (v12_guards_50 n) p v2 v3 := rfl
noncomputable def bg12_guards_50 (kg50 : PM → Int32 → Int32 → Prop) (p : PM) (v2 : Int32) (v3 : Int32) : Prop :=
  if v3 < (cn 44) then (
    (inb v3 44) ∧ (
    if (p.1 15 3 (v3).toNatClampNeg) = 0 then (
      (inb v3 44) ∧ (
      let p1 : PM := pI p 15 3 (v3).toNatClampNeg (cn 0)
      kg50 p1 v2 (v3 + (cn 1))))
    else (
      (inb v3 44) ∧ (
      if (p.1 13 15 (v3).toNatClampNeg) = v2 then (
        (inb v3 44) ∧ (
        if (p.1 13 19 (v3).toNatClampNeg) = (cn 4) then (
          (inb v3 44) ∧ (
          let p3 : PM := pI p 15 3 (v3).toNatClampNeg (cn 0)
          kg50 p3 v2 (v3 + (cn 1))))
        else (
          (inb v3 44) ∧ (
          let p4 : PM := pI p 15 3 (v3).toNatClampNeg (cn 1)
          kg50 p4 v2 (v3 + (cn 1))))))
      else (
        (inb v3 44) ∧ (
        let p2 : PM := pI p 15 3 (v3).toNatClampNeg (cn 1)
        kg50 p2 v2 (v3 + (cn 1))))))))
  else (
    True)
noncomputable def g12_guards_50 (n : Nat) : PM → Int32 → Int32 → Prop := Nat.rec (motive := fun _ => PM → Int32 → Int32 → Prop) (fun _ _ _ => False) (fun _ ih => bg12_guards_50 ih) n
theorem eg12_guards_50 (n : Nat) (p : PM) (v2 : Int32) (v3 : Int32) : g12_guards_50 (n + 1) p v2 v3 = bg12_guards_50 (g12_guards_50 n) p v2 v3 := rfl
noncomputable def bv12_guards (kv50 : PM → Int32 → Int32 → PM) (p : PM) (v1 : Int32) : PM :=
  let x1 : Int32 := (p.1 13 15 (v1).toNatClampNeg)
  if (p.1 13 19 (v1).toNatClampNeg) = (cn 4) then (
    if 0 < (p.1 13 3 (x1).toNatClampNeg) then (
      if (p.1 13 4 (x1).toNatClampNeg) < (p.1 13 3 (x1).toNatClampNeg) then (
        p)
      else (
        let p2 : PM := pI p 15 1 (x1).toNatClampNeg (cn 1)
        kv50 p2 x1 (cn 0)))
    else (
      p))
  else (
    p)
noncomputable def v12_guards (p : PM) (v1 : Int32) : PM := bv12_guards (v12_guards_50 FU) p v1
noncomputable def bg12_guards (kg50 : PM → Int32 → Int32 → Prop) (p : PM) (v1 : Int32) : Prop :=
  (inb v1 44) ∧ (
  let x1 : Int32 := (p.1 13 15 (v1).toNatClampNeg)
  (inb v1 44) ∧ (
  if (p.1 13 19 (v1).toNatClampNeg) = (cn 4) then (
    (inb x1 8) ∧ (
    if 0 < (p.1 13 3 (x1).toNatClampNeg) then (
      (inb x1 8) ∧ (
      (inb x1 8) ∧ (
      if (p.1 13 4 (x1).toNatClampNeg) < (p.1 13 3 (x1).toNatClampNeg) then (
        True)
      else (
        (inb x1 8) ∧ (
        let p2 : PM := pI p 15 1 (x1).toNatClampNeg (cn 1)
        kg50 p2 x1 (cn 0))))))
    else (
      True)))
  else (
    True)))
noncomputable def g12_guards (p : PM) (v1 : Int32) : Prop := bg12_guards (g12_guards_50 FU) p v1
noncomputable def bv12_isThere (p : PM) (v1 : Int32) (v2 : Int32) (v3 : Int32) : Int32 :=
  if (p.1 15 3 (v1).toNatClampNeg) = 0 then (
    (cn 0))
  else (
    if (p.1 13 24 (v1).toNatClampNeg) = (cn 1) then (
      if (p.1 13 16 (v1).toNatClampNeg) = v2 then (
        if (p.1 15 4 (v1).toNatClampNeg) = v3 then (
          (cn 1))
        else (
          (cn 0)))
      else (
        (cn 0)))
    else (
      (cn 0)))
noncomputable def v12_isThere (p : PM) (v1 : Int32) (v2 : Int32) (v3 : Int32) : Int32 := bv12_isThere p v1 v2 v3
noncomputable def bg12_isThere (p : PM) (v1 : Int32) (v2 : Int32) (v3 : Int32) : Prop :=
  (inb v1 44) ∧ (
  if (p.1 15 3 (v1).toNatClampNeg) = 0 then (
    True)
  else (
    (inb v1 44) ∧ (
    if (p.1 13 24 (v1).toNatClampNeg) = (cn 1) then (
      (inb v1 44) ∧ (
      if (p.1 13 16 (v1).toNatClampNeg) = v2 then (
        (inb v1 44) ∧ (
        if (p.1 15 4 (v1).toNatClampNeg) = v3 then (
          True)
        else (
          True)))
      else (
        True)))
    else (
      True))))
noncomputable def g12_isThere (p : PM) (v1 : Int32) (v2 : Int32) (v3 : Int32) : Prop := bg12_isThere p v1 v2 v3
noncomputable def bv12_isBetter (p : PM) (v0 : Int32) (v1 : Int32) (v2 : Int32) : Int32 :=
  if v2 = 0 then (
    if v0 < v1 then (
      (cn 1))
    else (
      (cn 0)))
  else (
    if v1 < v0 then (
      (cn 1))
    else (
      (cn 0)))
noncomputable def v12_isBetter (p : PM) (v0 : Int32) (v1 : Int32) (v2 : Int32) : Int32 := bv12_isBetter p v0 v1 v2
noncomputable def bg12_isBetter (p : PM) (v0 : Int32) (v1 : Int32) (v2 : Int32) : Prop :=
  if v2 = 0 then (
    if v0 < v1 then (
      True)
    else (
      True))
  else (
    if v1 < v0 then (
      True)
    else (
      True))
noncomputable def g12_isBetter (p : PM) (v0 : Int32) (v1 : Int32) (v2 : Int32) : Prop := bg12_isBetter p v0 v1 v2
noncomputable def bv12_bestOf_7 (p : PM) (F238 : PM → Int32 → Int32 → Int32 → Int32) (F239 : PM → Int32 → Int32 → Int32 → Int32) (kv7 : Int32 → Int32 → Int32 → Int32 → Int32 → Int32) (v1 : Int32) (v2 : Int32) (v3 : Int32) (v4 : Int32) (v5 : Int32) : Int32 :=
  if v5 < (cn 44) then (
    if (F238 p v5 v1 v2) = 0 then (
      kv7 v1 v2 v3 v4 (v5 + (cn 1)))
    else (
      if (p.1 15 5 (v5).toNatClampNeg) = 0 then (
        if v3 = 0 then (
          if (p.1 13 19 (v5).toNatClampNeg) = (cn 2) then (
            kv7 v1 v2 v3 v4 (v5 + (cn 1)))
          else (
            if v4 = (cn (-100000)) then (
              let x3 : Int32 := (p.1 13 25 (v5).toNatClampNeg)
              kv7 v1 v2 v3 x3 (v5 + (cn 1)))
            else (
              if (F239 p (p.1 13 25 (v5).toNatClampNeg) v4 v2) = 0 then (
                kv7 v1 v2 v3 v4 (v5 + (cn 1)))
              else (
                let x4 : Int32 := (p.1 13 25 (v5).toNatClampNeg)
                kv7 v1 v2 v3 x4 (v5 + (cn 1))))))
        else (
          if v4 = (cn (-100000)) then (
            let x1 : Int32 := (p.1 13 25 (v5).toNatClampNeg)
            kv7 v1 v2 v3 x1 (v5 + (cn 1)))
          else (
            if (F239 p (p.1 13 25 (v5).toNatClampNeg) v4 v2) = 0 then (
              kv7 v1 v2 v3 v4 (v5 + (cn 1)))
            else (
              let x2 : Int32 := (p.1 13 25 (v5).toNatClampNeg)
              kv7 v1 v2 v3 x2 (v5 + (cn 1))))))
      else (
        kv7 v1 v2 v3 v4 (v5 + (cn 1)))))
  else (
    v4)
noncomputable def v12_bestOf_7 (p : PM) (n : Nat) : Int32 → Int32 → Int32 → Int32 → Int32 → Int32 := Nat.rec (motive := fun _ => Int32 → Int32 → Int32 → Int32 → Int32 → Int32) (fun _ _ _ _ _ => 0) (fun _ ih => bv12_bestOf_7 p v12_isThere v12_isBetter ih) n
theorem ev12_bestOf_7 (p : PM) (n : Nat) (v1 : Int32) (v2 : Int32) (v3 : Int32) (v4 : Int32) (v5 : Int32) : v12_bestOf_7 p (n + 1) v1 v2 v3 v4 v5 = bv12_bestOf_7 p v12_isThere v12_isBetter (v12_bestOf_7 p n) v1 v2 v3 v4 v5 := rfl
noncomputable def bg12_bestOf_7 (p : PM) (F238 : PM → Int32 → Int32 → Int32 → Int32) (G238 : PM → Int32 → Int32 → Int32 → Prop) (F239 : PM → Int32 → Int32 → Int32 → Int32) (G239 : PM → Int32 → Int32 → Int32 → Prop) (kg7 : Int32 → Int32 → Int32 → Int32 → Int32 → Prop) (v1 : Int32) (v2 : Int32) (v3 : Int32) (v4 : Int32) (v5 : Int32) : Prop :=
  if v5 < (cn 44) then (
    (G238 p v5 v1 v2) ∧ (
    if (F238 p v5 v1 v2) = 0 then (
      kg7 v1 v2 v3 v4 (v5 + (cn 1)))
    else (
      (inb v5 44) ∧ (
      if (p.1 15 5 (v5).toNatClampNeg) = 0 then (
        if v3 = 0 then (
          (inb v5 44) ∧ (
          if (p.1 13 19 (v5).toNatClampNeg) = (cn 2) then (
            kg7 v1 v2 v3 v4 (v5 + (cn 1)))
          else (
            if v4 = (cn (-100000)) then (
              (inb v5 44) ∧ (
              let x3 : Int32 := (p.1 13 25 (v5).toNatClampNeg)
              kg7 v1 v2 v3 x3 (v5 + (cn 1))))
            else (
              (inb v5 44) ∧ (
              (G239 p (p.1 13 25 (v5).toNatClampNeg) v4 v2) ∧ (
              if (F239 p (p.1 13 25 (v5).toNatClampNeg) v4 v2) = 0 then (
                kg7 v1 v2 v3 v4 (v5 + (cn 1)))
              else (
                (inb v5 44) ∧ (
                let x4 : Int32 := (p.1 13 25 (v5).toNatClampNeg)
                kg7 v1 v2 v3 x4 (v5 + (cn 1))))))))))
        else (
          if v4 = (cn (-100000)) then (
            (inb v5 44) ∧ (
            let x1 : Int32 := (p.1 13 25 (v5).toNatClampNeg)
            kg7 v1 v2 v3 x1 (v5 + (cn 1))))
          else (
            (inb v5 44) ∧ (
            (G239 p (p.1 13 25 (v5).toNatClampNeg) v4 v2) ∧ (
            if (F239 p (p.1 13 25 (v5).toNatClampNeg) v4 v2) = 0 then (
              kg7 v1 v2 v3 v4 (v5 + (cn 1)))
            else (
              (inb v5 44) ∧ (
              let x2 : Int32 := (p.1 13 25 (v5).toNatClampNeg)
              kg7 v1 v2 v3 x2 (v5 + (cn 1)))))))))
      else (
        kg7 v1 v2 v3 v4 (v5 + (cn 1)))))))
  else (
    True)
noncomputable def g12_bestOf_7 (p : PM) (n : Nat) : Int32 → Int32 → Int32 → Int32 → Int32 → Prop := Nat.rec (motive := fun _ => Int32 → Int32 → Int32 → Int32 → Int32 → Prop) (fun _ _ _ _ _ => False) (fun _ ih => bg12_bestOf_7 p v12_isThere g12_isThere v12_isBetter g12_isBetter ih) n
theorem eg12_bestOf_7 (p : PM) (n : Nat) (v1 : Int32) (v2 : Int32) (v3 : Int32) (v4 : Int32) (v5 : Int32) : g12_bestOf_7 p (n + 1) v1 v2 v3 v4 v5 = bg12_bestOf_7 p v12_isThere g12_isThere v12_isBetter g12_isBetter (g12_bestOf_7 p n) v1 v2 v3 v4 v5 := rfl
noncomputable def bv12_bestOf (p : PM) (kv7 : Int32 → Int32 → Int32 → Int32 → Int32 → Int32) (v1 : Int32) (v2 : Int32) (v3 : Int32) : Int32 :=
  kv7 v1 v2 v3 (cn (-100000)) (cn 0)
noncomputable def v12_bestOf (p : PM) (v1 : Int32) (v2 : Int32) (v3 : Int32) : Int32 := bv12_bestOf p (v12_bestOf_7 p FU) v1 v2 v3
noncomputable def bg12_bestOf (p : PM) (kg7 : Int32 → Int32 → Int32 → Int32 → Int32 → Prop) (v1 : Int32) (v2 : Int32) (v3 : Int32) : Prop :=
  kg7 v1 v2 v3 (cn (-100000)) (cn 0)
noncomputable def g12_bestOf (p : PM) (v1 : Int32) (v2 : Int32) (v3 : Int32) : Prop := bg12_bestOf p (g12_bestOf_7 p FU) v1 v2 v3
noncomputable def bv12_isAt (p : PM) (F238 : PM → Int32 → Int32 → Int32 → Int32) (v1 : Int32) (v2 : Int32) (v3 : Int32) (v4 : Int32) : Int32 :=
  if (F238 p v1 v2 v3) = 0 then (
    (cn 0))
  else (
    if (p.1 15 5 (v1).toNatClampNeg) = 0 then (
      if (p.1 13 25 (v1).toNatClampNeg) = v4 then (
        (cn 1))
      else (
        (cn 0)))
    else (
      (cn 0)))
noncomputable def v12_isAt (p : PM) (v1 : Int32) (v2 : Int32) (v3 : Int32) (v4 : Int32) : Int32 := bv12_isAt p v12_isThere v1 v2 v3 v4
noncomputable def bg12_isAt (p : PM) (F238 : PM → Int32 → Int32 → Int32 → Int32) (G238 : PM → Int32 → Int32 → Int32 → Prop) (v1 : Int32) (v2 : Int32) (v3 : Int32) (v4 : Int32) : Prop :=
  (G238 p v1 v2 v3) ∧ (
  if (F238 p v1 v2 v3) = 0 then (
    True)
  else (
    (inb v1 44) ∧ (
    if (p.1 15 5 (v1).toNatClampNeg) = 0 then (
      (inb v1 44) ∧ (
      if (p.1 13 25 (v1).toNatClampNeg) = v4 then (
        True)
      else (
        True)))
    else (
      True))))
noncomputable def g12_isAt (p : PM) (v1 : Int32) (v2 : Int32) (v3 : Int32) (v4 : Int32) : Prop := bg12_isAt p v12_isThere g12_isThere v1 v2 v3 v4
noncomputable def bv12_behindTurn_6 (p : PM) (F241 : PM → Int32 → Int32 → Int32 → Int32 → Int32) (kv6 : Int32 → Int32 → Int32 → Int32 → Int32 → Int32 → Int32) (v1 : Int32) (v2 : Int32) (v3 : Int32) (v4 : Int32) (v5 : Int32) (v6 : Int32) : Int32 :=
  if v6 < (cn 44) then (
    if (F241 p v6 v1 v2 v3) = 0 then (
      kv6 v1 v2 v3 v4 v5 (v6 + (cn 1)))
    else (
      if v4 < (p.1 13 23 (v6).toNatClampNeg) then (
        if v5 < 0 then (
          kv6 v1 v2 v3 v4 v6 (v6 + (cn 1)))
        else (
          if (p.1 13 23 (v6).toNatClampNeg) < (p.1 13 23 (v5).toNatClampNeg) then (
            kv6 v1 v2 v3 v4 v6 (v6 + (cn 1)))
          else (
            kv6 v1 v2 v3 v4 v5 (v6 + (cn 1)))))
      else (
        kv6 v1 v2 v3 v4 v5 (v6 + (cn 1)))))
  else (
    v5)
noncomputable def v12_behindTurn_6 (p : PM) (n : Nat) : Int32 → Int32 → Int32 → Int32 → Int32 → Int32 → Int32 := Nat.rec (motive := fun _ => Int32 → Int32 → Int32 → Int32 → Int32 → Int32 → Int32) (fun _ _ _ _ _ _ => 0) (fun _ ih => bv12_behindTurn_6 p v12_isAt ih) n
theorem ev12_behindTurn_6 (p : PM) (n : Nat) (v1 : Int32) (v2 : Int32) (v3 : Int32) (v4 : Int32) (v5 : Int32) (v6 : Int32) : v12_behindTurn_6 p (n + 1) v1 v2 v3 v4 v5 v6 = bv12_behindTurn_6 p v12_isAt (v12_behindTurn_6 p n) v1 v2 v3 v4 v5 v6 := rfl
noncomputable def bg12_behindTurn_6 (p : PM) (F241 : PM → Int32 → Int32 → Int32 → Int32 → Int32) (G241 : PM → Int32 → Int32 → Int32 → Int32 → Prop) (kg6 : Int32 → Int32 → Int32 → Int32 → Int32 → Int32 → Prop) (v1 : Int32) (v2 : Int32) (v3 : Int32) (v4 : Int32) (v5 : Int32) (v6 : Int32) : Prop :=
  if v6 < (cn 44) then (
    (G241 p v6 v1 v2 v3) ∧ (
    if (F241 p v6 v1 v2 v3) = 0 then (
      kg6 v1 v2 v3 v4 v5 (v6 + (cn 1)))
    else (
      (inb v6 44) ∧ (
      if v4 < (p.1 13 23 (v6).toNatClampNeg) then (
        if v5 < 0 then (
          kg6 v1 v2 v3 v4 v6 (v6 + (cn 1)))
        else (
          (inb v6 44) ∧ (
          (inb v5 44) ∧ (
          if (p.1 13 23 (v6).toNatClampNeg) < (p.1 13 23 (v5).toNatClampNeg) then (
            kg6 v1 v2 v3 v4 v6 (v6 + (cn 1)))
          else (
            kg6 v1 v2 v3 v4 v5 (v6 + (cn 1)))))))
      else (
        kg6 v1 v2 v3 v4 v5 (v6 + (cn 1)))))))
  else (
    True)
noncomputable def g12_behindTurn_6 (p : PM) (n : Nat) : Int32 → Int32 → Int32 → Int32 → Int32 → Int32 → Prop := Nat.rec (motive := fun _ => Int32 → Int32 → Int32 → Int32 → Int32 → Int32 → Prop) (fun _ _ _ _ _ _ => False) (fun _ ih => bg12_behindTurn_6 p v12_isAt g12_isAt ih) n
theorem eg12_behindTurn_6 (p : PM) (n : Nat) (v1 : Int32) (v2 : Int32) (v3 : Int32) (v4 : Int32) (v5 : Int32) (v6 : Int32) : g12_behindTurn_6 p (n + 1) v1 v2 v3 v4 v5 v6 = bg12_behindTurn_6 p v12_isAt g12_isAt (g12_behindTurn_6 p n) v1 v2 v3 v4 v5 v6 := rfl
noncomputable def bv12_behindTurn (p : PM) (kv6 : Int32 → Int32 → Int32 → Int32 → Int32 → Int32 → Int32) (v1 : Int32) (v2 : Int32) (v3 : Int32) (v4 : Int32) : Int32 :=
  kv6 v1 v2 v3 v4 (cn (-1)) (cn 0)
noncomputable def v12_behindTurn (p : PM) (v1 : Int32) (v2 : Int32) (v3 : Int32) (v4 : Int32) : Int32 := bv12_behindTurn p (v12_behindTurn_6 p FU) v1 v2 v3 v4
noncomputable def bg12_behindTurn (p : PM) (kg6 : Int32 → Int32 → Int32 → Int32 → Int32 → Int32 → Prop) (v1 : Int32) (v2 : Int32) (v3 : Int32) (v4 : Int32) : Prop :=
  kg6 v1 v2 v3 v4 (cn (-1)) (cn 0)
noncomputable def g12_behindTurn (p : PM) (v1 : Int32) (v2 : Int32) (v3 : Int32) (v4 : Int32) : Prop := bg12_behindTurn p (g12_behindTurn_6 p FU) v1 v2 v3 v4
noncomputable def bv12_clearsGets_2 (kv2 : PM → Int32 → PM) (p : PM) (v1 : Int32) : PM :=
  if v1 < (cn 44) then (
    let p1 : PM := pI p 13 29 (v1).toNatClampNeg (cn 0)
    kv2 p1 (v1 + (cn 1)))
  else (
    p)
noncomputable def v12_clearsGets_2 (n : Nat) : PM → Int32 → PM := Nat.rec (motive := fun _ => PM → Int32 → PM) (fun p _ => p) (fun _ ih => bv12_clearsGets_2 ih) n
theorem ev12_clearsGets_2 (n : Nat) (p : PM) (v1 : Int32) : v12_clearsGets_2 (n + 1) p v1 = bv12_clearsGets_2 (v12_clearsGets_2 n) p v1 := rfl
noncomputable def bg12_clearsGets_2 (kg2 : PM → Int32 → Prop) (p : PM) (v1 : Int32) : Prop :=
  if v1 < (cn 44) then (
    (inb v1 44) ∧ (
    let p1 : PM := pI p 13 29 (v1).toNatClampNeg (cn 0)
    kg2 p1 (v1 + (cn 1))))
  else (
    True)
noncomputable def g12_clearsGets_2 (n : Nat) : PM → Int32 → Prop := Nat.rec (motive := fun _ => PM → Int32 → Prop) (fun _ _ => False) (fun _ ih => bg12_clearsGets_2 ih) n
theorem eg12_clearsGets_2 (n : Nat) (p : PM) (v1 : Int32) : g12_clearsGets_2 (n + 1) p v1 = bg12_clearsGets_2 (g12_clearsGets_2 n) p v1 := rfl
noncomputable def bv12_clearsGets (kv2 : PM → Int32 → PM) (p : PM) : PM :=
  kv2 p (cn 0)
noncomputable def v12_clearsGets (p : PM) : PM := bv12_clearsGets (v12_clearsGets_2 FU) p
noncomputable def bg12_clearsGets (kg2 : PM → Int32 → Prop) (p : PM) : Prop :=
  kg2 p (cn 0)
noncomputable def g12_clearsGets (p : PM) : Prop := bg12_clearsGets (g12_clearsGets_2 FU) p
noncomputable def bv12_least (p : PM) (v1 : Int32) (v2 : Int32) : Int32 :=
  if v1 < v2 then (
    v1)
  else (
    v2)
noncomputable def v12_least (p : PM) (v1 : Int32) (v2 : Int32) : Int32 := bv12_least p v1 v2
noncomputable def bg12_least (p : PM) (v1 : Int32) (v2 : Int32) : Prop :=
  if v1 < v2 then (
    True)
  else (
    True)
noncomputable def g12_least (p : PM) (v1 : Int32) (v2 : Int32) : Prop := bg12_least p v1 v2
noncomputable def bv12_sharesByTurns_14 (F226 : PM → Int32 → Int32) (F242 : PM → Int32 → Int32 → Int32 → Int32 → Int32) (F244 : PM → Int32 → Int32 → Int32) (kv14 : PM → Int32 → Int32 → Int32 → Int32 → Int32 → PM) (p : PM) (v1 : Int32) (v2 : Int32) (v3 : Int32) (v5 : Int32) (v6 : Int32) : PM :=
  if v6 < 0 then (
    p)
  else (
    let p1 : PM := pI p 13 29 (v6).toNatClampNeg (F244 p v5 (F226 p v6))
    let x2 : Int32 := (v5 - (p1.1 13 29 (v6).toNatClampNeg))
    let x3 : Int32 := (F242 p1 v1 v2 v3 (p1.1 13 23 (v6).toNatClampNeg))
    kv14 p1 v1 v2 v3 x2 x3)
noncomputable def v12_sharesByTurns_14 (n : Nat) : PM → Int32 → Int32 → Int32 → Int32 → Int32 → PM := Nat.rec (motive := fun _ => PM → Int32 → Int32 → Int32 → Int32 → Int32 → PM) (fun p _ _ _ _ _ => p) (fun _ ih => bv12_sharesByTurns_14 v12_showsNow v12_behindTurn v12_least ih) n
theorem ev12_sharesByTurns_14 (n : Nat) (p : PM) (v1 : Int32) (v2 : Int32) (v3 : Int32) (v5 : Int32) (v6 : Int32) : v12_sharesByTurns_14 (n + 1) p v1 v2 v3 v5 v6 = bv12_sharesByTurns_14 v12_showsNow v12_behindTurn v12_least (v12_sharesByTurns_14 n) p v1 v2 v3 v5 v6 := rfl
noncomputable def bg12_sharesByTurns_14 (F226 : PM → Int32 → Int32) (G226 : PM → Int32 → Prop) (F242 : PM → Int32 → Int32 → Int32 → Int32 → Int32) (G242 : PM → Int32 → Int32 → Int32 → Int32 → Prop) (F244 : PM → Int32 → Int32 → Int32) (G244 : PM → Int32 → Int32 → Prop) (kg14 : PM → Int32 → Int32 → Int32 → Int32 → Int32 → Prop) (p : PM) (v1 : Int32) (v2 : Int32) (v3 : Int32) (v5 : Int32) (v6 : Int32) : Prop :=
  if v6 < 0 then (
    True)
  else (
    (G226 p v6) ∧ (
    (G244 p v5 (F226 p v6)) ∧ (
    (inb v6 44) ∧ (
    let p1 : PM := pI p 13 29 (v6).toNatClampNeg (F244 p v5 (F226 p v6))
    (inb v6 44) ∧ (
    let x2 : Int32 := (v5 - (p1.1 13 29 (v6).toNatClampNeg))
    (inb v6 44) ∧ (
    (G242 p1 v1 v2 v3 (p1.1 13 23 (v6).toNatClampNeg)) ∧ (
    let x3 : Int32 := (F242 p1 v1 v2 v3 (p1.1 13 23 (v6).toNatClampNeg))
    kg14 p1 v1 v2 v3 x2 x3)))))))
noncomputable def g12_sharesByTurns_14 (n : Nat) : PM → Int32 → Int32 → Int32 → Int32 → Int32 → Prop := Nat.rec (motive := fun _ => PM → Int32 → Int32 → Int32 → Int32 → Int32 → Prop) (fun _ _ _ _ _ _ => False) (fun _ ih => bg12_sharesByTurns_14 v12_showsNow g12_showsNow v12_behindTurn g12_behindTurn v12_least g12_least ih) n
theorem eg12_sharesByTurns_14 (n : Nat) (p : PM) (v1 : Int32) (v2 : Int32) (v3 : Int32) (v5 : Int32) (v6 : Int32) : g12_sharesByTurns_14 (n + 1) p v1 v2 v3 v5 v6 = bg12_sharesByTurns_14 v12_showsNow g12_showsNow v12_behindTurn g12_behindTurn v12_least g12_least (g12_sharesByTurns_14 n) p v1 v2 v3 v5 v6 := rfl
noncomputable def bv12_sharesByTurns (F242 : PM → Int32 → Int32 → Int32 → Int32 → Int32) (kv14 : PM → Int32 → Int32 → Int32 → Int32 → Int32 → PM) (p : PM) (v1 : Int32) (v2 : Int32) (v3 : Int32) (v4 : Int32) : PM :=
  let x1 : Int32 := (F242 p v1 v2 v3 (cn (-1)))
  kv14 p v1 v2 v3 v4 x1
noncomputable def v12_sharesByTurns (p : PM) (v1 : Int32) (v2 : Int32) (v3 : Int32) (v4 : Int32) : PM := bv12_sharesByTurns v12_behindTurn (v12_sharesByTurns_14 FU) p v1 v2 v3 v4
noncomputable def bg12_sharesByTurns (F242 : PM → Int32 → Int32 → Int32 → Int32 → Int32) (G242 : PM → Int32 → Int32 → Int32 → Int32 → Prop) (kg14 : PM → Int32 → Int32 → Int32 → Int32 → Int32 → Prop) (p : PM) (v1 : Int32) (v2 : Int32) (v3 : Int32) (v4 : Int32) : Prop :=
  (G242 p v1 v2 v3 (cn (-1))) ∧ (
  let x1 : Int32 := (F242 p v1 v2 v3 (cn (-1)))
  kg14 p v1 v2 v3 v4 x1)
noncomputable def g12_sharesByTurns (p : PM) (v1 : Int32) (v2 : Int32) (v3 : Int32) (v4 : Int32) : Prop := bg12_sharesByTurns v12_behindTurn g12_behindTurn (g12_sharesByTurns_14 FU) p v1 v2 v3 v4
noncomputable def bv12_nextBySize_6 (p : PM) (F226 : PM → Int32 → Int32) (F241 : PM → Int32 → Int32 → Int32 → Int32 → Int32) (kv6 : Int32 → Int32 → Int32 → Int32 → Int32 → Int32 → Int32 → Int32) (v1 : Int32) (v2 : Int32) (v3 : Int32) (v4 : Int32) (v5 : Int32) (v6 : Int32) (v7 : Int32) : Int32 :=
  if v7 < (cn 44) then (
    if (F241 p v7 v1 v2 v3) = 0 then (
      kv6 v1 v2 v3 v4 v5 v6 (v7 + (cn 1)))
    else (
      if (F226 p v7) < v4 then (
        if v6 < 0 then (
          kv6 v1 v2 v3 v4 v5 v7 (v7 + (cn 1)))
        else (
          if (F226 p v6) < (F226 p v7) then (
            kv6 v1 v2 v3 v4 v5 v7 (v7 + (cn 1)))
          else (
            if (F226 p v7) = (F226 p v6) then (
              if (p.1 13 23 (v7).toNatClampNeg) < (p.1 13 23 (v6).toNatClampNeg) then (
                kv6 v1 v2 v3 v4 v5 v7 (v7 + (cn 1)))
              else (
                kv6 v1 v2 v3 v4 v5 v6 (v7 + (cn 1))))
            else (
              kv6 v1 v2 v3 v4 v5 v6 (v7 + (cn 1))))))
      else (
        if (F226 p v7) = v4 then (
          if v5 < (p.1 13 23 (v7).toNatClampNeg) then (
            if v6 < 0 then (
              kv6 v1 v2 v3 v4 v5 v7 (v7 + (cn 1)))
            else (
              if (F226 p v6) < (F226 p v7) then (
                kv6 v1 v2 v3 v4 v5 v7 (v7 + (cn 1)))
              else (
                if (F226 p v7) = (F226 p v6) then (
                  if (p.1 13 23 (v7).toNatClampNeg) < (p.1 13 23 (v6).toNatClampNeg) then (
                    kv6 v1 v2 v3 v4 v5 v7 (v7 + (cn 1)))
                  else (
                    kv6 v1 v2 v3 v4 v5 v6 (v7 + (cn 1))))
                else (
                  kv6 v1 v2 v3 v4 v5 v6 (v7 + (cn 1))))))
          else (
            kv6 v1 v2 v3 v4 v5 v6 (v7 + (cn 1))))
        else (
          kv6 v1 v2 v3 v4 v5 v6 (v7 + (cn 1))))))
  else (
    v6)
noncomputable def v12_nextBySize_6 (p : PM) (n : Nat) : Int32 → Int32 → Int32 → Int32 → Int32 → Int32 → Int32 → Int32 := Nat.rec (motive := fun _ => Int32 → Int32 → Int32 → Int32 → Int32 → Int32 → Int32 → Int32) (fun _ _ _ _ _ _ _ => 0) (fun _ ih => bv12_nextBySize_6 p v12_showsNow v12_isAt ih) n
theorem ev12_nextBySize_6 (p : PM) (n : Nat) (v1 : Int32) (v2 : Int32) (v3 : Int32) (v4 : Int32) (v5 : Int32) (v6 : Int32) (v7 : Int32) : v12_nextBySize_6 p (n + 1) v1 v2 v3 v4 v5 v6 v7 = bv12_nextBySize_6 p v12_showsNow v12_isAt (v12_nextBySize_6 p n) v1 v2 v3 v4 v5 v6 v7 := rfl
noncomputable def bg12_nextBySize_6 (p : PM) (F226 : PM → Int32 → Int32) (G226 : PM → Int32 → Prop) (F241 : PM → Int32 → Int32 → Int32 → Int32 → Int32) (G241 : PM → Int32 → Int32 → Int32 → Int32 → Prop) (kg6 : Int32 → Int32 → Int32 → Int32 → Int32 → Int32 → Int32 → Prop) (v1 : Int32) (v2 : Int32) (v3 : Int32) (v4 : Int32) (v5 : Int32) (v6 : Int32) (v7 : Int32) : Prop :=
  if v7 < (cn 44) then (
    (G241 p v7 v1 v2 v3) ∧ (
    if (F241 p v7 v1 v2 v3) = 0 then (
      kg6 v1 v2 v3 v4 v5 v6 (v7 + (cn 1)))
    else (
      (G226 p v7) ∧ (
      if (F226 p v7) < v4 then (
        if v6 < 0 then (
          kg6 v1 v2 v3 v4 v5 v7 (v7 + (cn 1)))
        else (
          (G226 p v7) ∧ (
          (G226 p v6) ∧ (
          if (F226 p v6) < (F226 p v7) then (
            kg6 v1 v2 v3 v4 v5 v7 (v7 + (cn 1)))
          else (
            (G226 p v7) ∧ (
            (G226 p v6) ∧ (
            if (F226 p v7) = (F226 p v6) then (
              (inb v7 44) ∧ (
              (inb v6 44) ∧ (
              if (p.1 13 23 (v7).toNatClampNeg) < (p.1 13 23 (v6).toNatClampNeg) then (
                kg6 v1 v2 v3 v4 v5 v7 (v7 + (cn 1)))
              else (
                kg6 v1 v2 v3 v4 v5 v6 (v7 + (cn 1))))))
            else (
              kg6 v1 v2 v3 v4 v5 v6 (v7 + (cn 1))))))))))
      else (
        (G226 p v7) ∧ (
        if (F226 p v7) = v4 then (
          (inb v7 44) ∧ (
          if v5 < (p.1 13 23 (v7).toNatClampNeg) then (
            if v6 < 0 then (
              kg6 v1 v2 v3 v4 v5 v7 (v7 + (cn 1)))
            else (
              (G226 p v7) ∧ (
              (G226 p v6) ∧ (
              if (F226 p v6) < (F226 p v7) then (
                kg6 v1 v2 v3 v4 v5 v7 (v7 + (cn 1)))
              else (
                (G226 p v7) ∧ (
                (G226 p v6) ∧ (
                if (F226 p v7) = (F226 p v6) then (
                  (inb v7 44) ∧ (
                  (inb v6 44) ∧ (
                  if (p.1 13 23 (v7).toNatClampNeg) < (p.1 13 23 (v6).toNatClampNeg) then (
                    kg6 v1 v2 v3 v4 v5 v7 (v7 + (cn 1)))
                  else (
                    kg6 v1 v2 v3 v4 v5 v6 (v7 + (cn 1))))))
                else (
                  kg6 v1 v2 v3 v4 v5 v6 (v7 + (cn 1))))))))))
          else (
            kg6 v1 v2 v3 v4 v5 v6 (v7 + (cn 1)))))
        else (
          kg6 v1 v2 v3 v4 v5 v6 (v7 + (cn 1)))))))))
  else (
    True)
noncomputable def g12_nextBySize_6 (p : PM) (n : Nat) : Int32 → Int32 → Int32 → Int32 → Int32 → Int32 → Int32 → Prop := Nat.rec (motive := fun _ => Int32 → Int32 → Int32 → Int32 → Int32 → Int32 → Int32 → Prop) (fun _ _ _ _ _ _ _ => False) (fun _ ih => bg12_nextBySize_6 p v12_showsNow g12_showsNow v12_isAt g12_isAt ih) n
theorem eg12_nextBySize_6 (p : PM) (n : Nat) (v1 : Int32) (v2 : Int32) (v3 : Int32) (v4 : Int32) (v5 : Int32) (v6 : Int32) (v7 : Int32) : g12_nextBySize_6 p (n + 1) v1 v2 v3 v4 v5 v6 v7 = bg12_nextBySize_6 p v12_showsNow g12_showsNow v12_isAt g12_isAt (g12_nextBySize_6 p n) v1 v2 v3 v4 v5 v6 v7 := rfl
noncomputable def bv12_nextBySize (p : PM) (kv6 : Int32 → Int32 → Int32 → Int32 → Int32 → Int32 → Int32 → Int32) (v1 : Int32) (v2 : Int32) (v3 : Int32) (v4 : Int32) (v5 : Int32) : Int32 :=
  kv6 v1 v2 v3 v4 v5 (cn (-1)) (cn 0)
noncomputable def v12_nextBySize (p : PM) (v1 : Int32) (v2 : Int32) (v3 : Int32) (v4 : Int32) (v5 : Int32) : Int32 := bv12_nextBySize p (v12_nextBySize_6 p FU) v1 v2 v3 v4 v5
noncomputable def bg12_nextBySize (p : PM) (kg6 : Int32 → Int32 → Int32 → Int32 → Int32 → Int32 → Int32 → Prop) (v1 : Int32) (v2 : Int32) (v3 : Int32) (v4 : Int32) (v5 : Int32) : Prop :=
  kg6 v1 v2 v3 v4 v5 (cn (-1)) (cn 0)
noncomputable def g12_nextBySize (p : PM) (v1 : Int32) (v2 : Int32) (v3 : Int32) (v4 : Int32) (v5 : Int32) : Prop := bg12_nextBySize p (g12_nextBySize_6 p FU) v1 v2 v3 v4 v5
noncomputable def bv12_sharesBySize_17 (F226 : PM → Int32 → Int32) (F244 : PM → Int32 → Int32 → Int32) (F247 : PM → Int32 → Int32 → Int32 → Int32 → Int32 → Int32) (kv17 : PM → Int32 → Int32 → Int32 → Int32 → Int32 → PM) (p : PM) (v1 : Int32) (v2 : Int32) (v3 : Int32) (v5 : Int32) (v6 : Int32) : PM :=
  if v6 < 0 then (
    p)
  else (
    let p1 : PM := pI p 13 29 (v6).toNatClampNeg (F244 p v5 (F226 p v6))
    let x2 : Int32 := (v5 - (p1.1 13 29 (v6).toNatClampNeg))
    let x3 : Int32 := (F247 p1 v1 v2 v3 (F226 p1 v6) (p1.1 13 23 (v6).toNatClampNeg))
    kv17 p1 v1 v2 v3 x2 x3)
noncomputable def v12_sharesBySize_17 (n : Nat) : PM → Int32 → Int32 → Int32 → Int32 → Int32 → PM := Nat.rec (motive := fun _ => PM → Int32 → Int32 → Int32 → Int32 → Int32 → PM) (fun p _ _ _ _ _ => p) (fun _ ih => bv12_sharesBySize_17 v12_showsNow v12_least v12_nextBySize ih) n
theorem ev12_sharesBySize_17 (n : Nat) (p : PM) (v1 : Int32) (v2 : Int32) (v3 : Int32) (v5 : Int32) (v6 : Int32) : v12_sharesBySize_17 (n + 1) p v1 v2 v3 v5 v6 = bv12_sharesBySize_17 v12_showsNow v12_least v12_nextBySize (v12_sharesBySize_17 n) p v1 v2 v3 v5 v6 := rfl
noncomputable def bg12_sharesBySize_17 (F226 : PM → Int32 → Int32) (G226 : PM → Int32 → Prop) (F244 : PM → Int32 → Int32 → Int32) (G244 : PM → Int32 → Int32 → Prop) (F247 : PM → Int32 → Int32 → Int32 → Int32 → Int32 → Int32) (G247 : PM → Int32 → Int32 → Int32 → Int32 → Int32 → Prop) (kg17 : PM → Int32 → Int32 → Int32 → Int32 → Int32 → Prop) (p : PM) (v1 : Int32) (v2 : Int32) (v3 : Int32) (v5 : Int32) (v6 : Int32) : Prop :=
  if v6 < 0 then (
    True)
  else (
    (G226 p v6) ∧ (
    (G244 p v5 (F226 p v6)) ∧ (
    (inb v6 44) ∧ (
    let p1 : PM := pI p 13 29 (v6).toNatClampNeg (F244 p v5 (F226 p v6))
    (inb v6 44) ∧ (
    let x2 : Int32 := (v5 - (p1.1 13 29 (v6).toNatClampNeg))
    (G226 p1 v6) ∧ (
    (inb v6 44) ∧ (
    (G247 p1 v1 v2 v3 (F226 p1 v6) (p1.1 13 23 (v6).toNatClampNeg)) ∧ (
    let x3 : Int32 := (F247 p1 v1 v2 v3 (F226 p1 v6) (p1.1 13 23 (v6).toNatClampNeg))
    kg17 p1 v1 v2 v3 x2 x3))))))))
noncomputable def g12_sharesBySize_17 (n : Nat) : PM → Int32 → Int32 → Int32 → Int32 → Int32 → Prop := Nat.rec (motive := fun _ => PM → Int32 → Int32 → Int32 → Int32 → Int32 → Prop) (fun _ _ _ _ _ _ => False) (fun _ ih => bg12_sharesBySize_17 v12_showsNow g12_showsNow v12_least g12_least v12_nextBySize g12_nextBySize ih) n
theorem eg12_sharesBySize_17 (n : Nat) (p : PM) (v1 : Int32) (v2 : Int32) (v3 : Int32) (v5 : Int32) (v6 : Int32) : g12_sharesBySize_17 (n + 1) p v1 v2 v3 v5 v6 = bg12_sharesBySize_17 v12_showsNow g12_showsNow v12_least g12_least v12_nextBySize g12_nextBySize (g12_sharesBySize_17 n) p v1 v2 v3 v5 v6 := rfl
noncomputable def bv12_sharesBySize (F247 : PM → Int32 → Int32 → Int32 → Int32 → Int32 → Int32) (kv17 : PM → Int32 → Int32 → Int32 → Int32 → Int32 → PM) (p : PM) (v1 : Int32) (v2 : Int32) (v3 : Int32) (v4 : Int32) : PM :=
  let x1 : Int32 := (F247 p v1 v2 v3 (cn 1000) (cn (-1)))
  kv17 p v1 v2 v3 v4 x1
noncomputable def v12_sharesBySize (p : PM) (v1 : Int32) (v2 : Int32) (v3 : Int32) (v4 : Int32) : PM := bv12_sharesBySize v12_nextBySize (v12_sharesBySize_17 FU) p v1 v2 v3 v4
noncomputable def bg12_sharesBySize (F247 : PM → Int32 → Int32 → Int32 → Int32 → Int32 → Int32) (G247 : PM → Int32 → Int32 → Int32 → Int32 → Int32 → Prop) (kg17 : PM → Int32 → Int32 → Int32 → Int32 → Int32 → Prop) (p : PM) (v1 : Int32) (v2 : Int32) (v3 : Int32) (v4 : Int32) : Prop :=
  (G247 p v1 v2 v3 (cn 1000) (cn (-1))) ∧ (
  let x1 : Int32 := (F247 p v1 v2 v3 (cn 1000) (cn (-1)))
  kg17 p v1 v2 v3 v4 x1)
noncomputable def g12_sharesBySize (p : PM) (v1 : Int32) (v2 : Int32) (v3 : Int32) (v4 : Int32) : Prop := bg12_sharesBySize v12_nextBySize g12_nextBySize (g12_sharesBySize_17 FU) p v1 v2 v3 v4
noncomputable def bv12_sharesOut_229 (F226 : PM → Int32 → Int32) (F242 : PM → Int32 → Int32 → Int32 → Int32 → Int32) (kv207 : PM → Int32 → Int32 → Int32 → Int32 → Int32 → Int32 → PM) (kv229 : PM → Int32 → Int32 → Int32 → Int32 → Int32 → Int32 → Int32 → PM) (p : PM) (v1 : Int32) (v2 : Int32) (v3 : Int32) (v6 : Int32) (v7 : Int32) (v8 : Int32) (v9 : Int32) : PM :=
  if v9 < 0 then (
    kv207 p v1 v2 v3 v6 v7 v8)
  else (
    if 0 < v6 then (
      if (p.1 13 29 (v9).toNatClampNeg) < (F226 p v9) then (
        let p5 : PM := pI p 13 29 (v9).toNatClampNeg ((p.1 13 29 (v9).toNatClampNeg) + (cn 1))
        let x6 : Int32 := (F242 p5 v1 v2 v3 (p5.1 13 23 (v9).toNatClampNeg))
        kv229 p5 v1 v2 v3 (v6 - (cn 1)) v7 v8 x6)
      else (
        let p3 : PM := pI p 13 29 (v9).toNatClampNeg ((p.1 13 29 (v9).toNatClampNeg) + (cn 0))
        let x4 : Int32 := (F242 p3 v1 v2 v3 (p3.1 13 23 (v9).toNatClampNeg))
        kv229 p3 v1 v2 v3 (v6 - (cn 0)) v7 v8 x4))
    else (
      let p1 : PM := pI p 13 29 (v9).toNatClampNeg ((p.1 13 29 (v9).toNatClampNeg) + (cn 0))
      let x2 : Int32 := (F242 p1 v1 v2 v3 (p1.1 13 23 (v9).toNatClampNeg))
      kv229 p1 v1 v2 v3 (v6 - (cn 0)) v7 v8 x2))
noncomputable def v12_sharesOut_229 (kv207 : PM → Int32 → Int32 → Int32 → Int32 → Int32 → Int32 → PM) (n : Nat) : PM → Int32 → Int32 → Int32 → Int32 → Int32 → Int32 → Int32 → PM := Nat.rec (motive := fun _ => PM → Int32 → Int32 → Int32 → Int32 → Int32 → Int32 → Int32 → PM) (fun p _ _ _ _ _ _ _ => p) (fun _ ih => bv12_sharesOut_229 v12_showsNow v12_behindTurn kv207 ih) n
theorem ev12_sharesOut_229 (kv207 : PM → Int32 → Int32 → Int32 → Int32 → Int32 → Int32 → PM) (n : Nat) (p : PM) (v1 : Int32) (v2 : Int32) (v3 : Int32) (v6 : Int32) (v7 : Int32) (v8 : Int32) (v9 : Int32) : v12_sharesOut_229 kv207 (n + 1) p v1 v2 v3 v6 v7 v8 v9 = bv12_sharesOut_229 v12_showsNow v12_behindTurn kv207 (v12_sharesOut_229 kv207 n) p v1 v2 v3 v6 v7 v8 v9 := rfl
noncomputable def bg12_sharesOut_229 (F226 : PM → Int32 → Int32) (G226 : PM → Int32 → Prop) (F242 : PM → Int32 → Int32 → Int32 → Int32 → Int32) (G242 : PM → Int32 → Int32 → Int32 → Int32 → Prop) (kg207 : PM → Int32 → Int32 → Int32 → Int32 → Int32 → Int32 → Prop) (kg229 : PM → Int32 → Int32 → Int32 → Int32 → Int32 → Int32 → Int32 → Prop) (p : PM) (v1 : Int32) (v2 : Int32) (v3 : Int32) (v6 : Int32) (v7 : Int32) (v8 : Int32) (v9 : Int32) : Prop :=
  if v9 < 0 then (
    kg207 p v1 v2 v3 v6 v7 v8)
  else (
    if 0 < v6 then (
      (inb v9 44) ∧ (
      (G226 p v9) ∧ (
      if (p.1 13 29 (v9).toNatClampNeg) < (F226 p v9) then (
        (inb v9 44) ∧ (
        (inb v9 44) ∧ (
        let p5 : PM := pI p 13 29 (v9).toNatClampNeg ((p.1 13 29 (v9).toNatClampNeg) + (cn 1))
        (inb v9 44) ∧ (
        (G242 p5 v1 v2 v3 (p5.1 13 23 (v9).toNatClampNeg)) ∧ (
        let x6 : Int32 := (F242 p5 v1 v2 v3 (p5.1 13 23 (v9).toNatClampNeg))
        kg229 p5 v1 v2 v3 (v6 - (cn 1)) v7 v8 x6)))))
      else (
        (inb v9 44) ∧ (
        (inb v9 44) ∧ (
        let p3 : PM := pI p 13 29 (v9).toNatClampNeg ((p.1 13 29 (v9).toNatClampNeg) + (cn 0))
        (inb v9 44) ∧ (
        (G242 p3 v1 v2 v3 (p3.1 13 23 (v9).toNatClampNeg)) ∧ (
        let x4 : Int32 := (F242 p3 v1 v2 v3 (p3.1 13 23 (v9).toNatClampNeg))
        kg229 p3 v1 v2 v3 (v6 - (cn 0)) v7 v8 x4))))))))
    else (
      (inb v9 44) ∧ (
      (inb v9 44) ∧ (
      let p1 : PM := pI p 13 29 (v9).toNatClampNeg ((p.1 13 29 (v9).toNatClampNeg) + (cn 0))
      (inb v9 44) ∧ (
      (G242 p1 v1 v2 v3 (p1.1 13 23 (v9).toNatClampNeg)) ∧ (
      let x2 : Int32 := (F242 p1 v1 v2 v3 (p1.1 13 23 (v9).toNatClampNeg))
      kg229 p1 v1 v2 v3 (v6 - (cn 0)) v7 v8 x2))))))
noncomputable def g12_sharesOut_229 (kg207 : PM → Int32 → Int32 → Int32 → Int32 → Int32 → Int32 → Prop) (n : Nat) : PM → Int32 → Int32 → Int32 → Int32 → Int32 → Int32 → Int32 → Prop := Nat.rec (motive := fun _ => PM → Int32 → Int32 → Int32 → Int32 → Int32 → Int32 → Int32 → Prop) (fun _ _ _ _ _ _ _ _ => False) (fun _ ih => bg12_sharesOut_229 v12_showsNow g12_showsNow v12_behindTurn g12_behindTurn kg207 ih) n
theorem eg12_sharesOut_229 (kg207 : PM → Int32 → Int32 → Int32 → Int32 → Int32 → Int32 → Prop) (n : Nat) (p : PM) (v1 : Int32) (v2 : Int32) (v3 : Int32) (v6 : Int32) (v7 : Int32) (v8 : Int32) (v9 : Int32) : g12_sharesOut_229 kg207 (n + 1) p v1 v2 v3 v6 v7 v8 v9 = bg12_sharesOut_229 v12_showsNow g12_showsNow v12_behindTurn g12_behindTurn kg207 (g12_sharesOut_229 kg207 n) p v1 v2 v3 v6 v7 v8 v9 := rfl
noncomputable def bv12_sharesOut_207 (F242 : PM → Int32 → Int32 → Int32 → Int32 → Int32) (kv229 : PM → Int32 → Int32 → Int32 → Int32 → Int32 → Int32 → Int32 → PM) (p : PM) (v1 : Int32) (v2 : Int32) (v3 : Int32) (v6 : Int32) (v7 : Int32) (v8 : Int32) : PM :=
  if 0 < v6 then (
    if v7 < v8 then (
      p)
    else (
      let x1 : Int32 := (F242 p v1 v2 v3 (cn (-1)))
      kv229 p v1 v2 v3 v6 v7 v8 x1))
  else (
    p)
noncomputable def v12_sharesOut_207 (n : Nat) : PM → Int32 → Int32 → Int32 → Int32 → Int32 → Int32 → PM := Nat.rec (motive := fun _ => PM → Int32 → Int32 → Int32 → Int32 → Int32 → Int32 → PM) (fun p _ _ _ _ _ _ => p) (fun _ ih => bv12_sharesOut_207 v12_behindTurn (v12_sharesOut_229 ih FU)) n
theorem ev12_sharesOut_207 (n : Nat) (p : PM) (v1 : Int32) (v2 : Int32) (v3 : Int32) (v6 : Int32) (v7 : Int32) (v8 : Int32) : v12_sharesOut_207 (n + 1) p v1 v2 v3 v6 v7 v8 = bv12_sharesOut_207 v12_behindTurn (v12_sharesOut_229 (v12_sharesOut_207 n) FU) p v1 v2 v3 v6 v7 v8 := rfl
noncomputable def bg12_sharesOut_207 (F242 : PM → Int32 → Int32 → Int32 → Int32 → Int32) (G242 : PM → Int32 → Int32 → Int32 → Int32 → Prop) (kg229 : PM → Int32 → Int32 → Int32 → Int32 → Int32 → Int32 → Int32 → Prop) (p : PM) (v1 : Int32) (v2 : Int32) (v3 : Int32) (v6 : Int32) (v7 : Int32) (v8 : Int32) : Prop :=
  if 0 < v6 then (
    if v7 < v8 then (
      True)
    else (
      (G242 p v1 v2 v3 (cn (-1))) ∧ (
      let x1 : Int32 := (F242 p v1 v2 v3 (cn (-1)))
      kg229 p v1 v2 v3 v6 v7 v8 x1)))
  else (
    True)
noncomputable def g12_sharesOut_207 (n : Nat) : PM → Int32 → Int32 → Int32 → Int32 → Int32 → Int32 → Prop := Nat.rec (motive := fun _ => PM → Int32 → Int32 → Int32 → Int32 → Int32 → Int32 → Prop) (fun _ _ _ _ _ _ _ => False) (fun _ ih => bg12_sharesOut_207 v12_behindTurn g12_behindTurn (g12_sharesOut_229 ih FU)) n
theorem eg12_sharesOut_207 (n : Nat) (p : PM) (v1 : Int32) (v2 : Int32) (v3 : Int32) (v6 : Int32) (v7 : Int32) (v8 : Int32) : g12_sharesOut_207 (n + 1) p v1 v2 v3 v6 v7 v8 = bg12_sharesOut_207 v12_behindTurn g12_behindTurn (g12_sharesOut_229 (g12_sharesOut_207 n) FU) p v1 v2 v3 v6 v7 v8 := rfl
noncomputable def bv12_sharesOut_116 (F226 : PM → Int32 → Int32) (F241 : PM → Int32 → Int32 → Int32 → Int32 → Int32) (kv116 : PM → Int32 → Int32 → Int32 → Int32 → Int32 → Int32 → Int32 → PM) (kv207 : PM → Int32 → Int32 → Int32 → Int32 → Int32 → Int32 → PM) (p : PM) (v1 : Int32) (v2 : Int32) (v3 : Int32) (v6 : Int32) (v7 : Int32) (v8 : Int32) (v9 : Int32) : PM :=
  if v9 < (cn 44) then (
    if (F241 p v9 v1 v2 v3) = 0 then (
      kv116 p v1 v2 v3 v6 v7 v8 (v9 + (cn 1)))
    else (
      let x1 : Int32 := ((F226 p v9) - (p.1 13 29 (v9).toNatClampNeg))
      if v7 < v8 then (
        let p4 : PM := pI p 13 29 (v9).toNatClampNeg ((p.1 13 29 (v9).toNatClampNeg) + x1)
        kv116 p4 v1 v2 v3 (v6 - x1) v7 v8 (v9 + (cn 1)))
      else (
        if v7 = 0 then (
          let p3 : PM := pI p 13 29 (v9).toNatClampNeg ((p.1 13 29 (v9).toNatClampNeg) + (cn 0))
          kv116 p3 v1 v2 v3 (v6 - (cn 0)) v7 v8 (v9 + (cn 1)))
        else (
          let p2 : PM := pI p 13 29 (v9).toNatClampNeg ((p.1 13 29 (v9).toNatClampNeg) + ((v8 * x1) / v7))
          kv116 p2 v1 v2 v3 (v6 - ((v8 * x1) / v7)) v7 v8 (v9 + (cn 1))))))
  else (
    kv207 p v1 v2 v3 v6 v7 v8)
noncomputable def v12_sharesOut_116 (n : Nat) : PM → Int32 → Int32 → Int32 → Int32 → Int32 → Int32 → Int32 → PM := Nat.rec (motive := fun _ => PM → Int32 → Int32 → Int32 → Int32 → Int32 → Int32 → Int32 → PM) (fun p _ _ _ _ _ _ _ => p) (fun _ ih => bv12_sharesOut_116 v12_showsNow v12_isAt ih (v12_sharesOut_207 FU)) n
theorem ev12_sharesOut_116 (n : Nat) (p : PM) (v1 : Int32) (v2 : Int32) (v3 : Int32) (v6 : Int32) (v7 : Int32) (v8 : Int32) (v9 : Int32) : v12_sharesOut_116 (n + 1) p v1 v2 v3 v6 v7 v8 v9 = bv12_sharesOut_116 v12_showsNow v12_isAt (v12_sharesOut_116 n) (v12_sharesOut_207 FU) p v1 v2 v3 v6 v7 v8 v9 := rfl
noncomputable def bg12_sharesOut_116 (F226 : PM → Int32 → Int32) (G226 : PM → Int32 → Prop) (F241 : PM → Int32 → Int32 → Int32 → Int32 → Int32) (G241 : PM → Int32 → Int32 → Int32 → Int32 → Prop) (kg116 : PM → Int32 → Int32 → Int32 → Int32 → Int32 → Int32 → Int32 → Prop) (kg207 : PM → Int32 → Int32 → Int32 → Int32 → Int32 → Int32 → Prop) (p : PM) (v1 : Int32) (v2 : Int32) (v3 : Int32) (v6 : Int32) (v7 : Int32) (v8 : Int32) (v9 : Int32) : Prop :=
  if v9 < (cn 44) then (
    (G241 p v9 v1 v2 v3) ∧ (
    if (F241 p v9 v1 v2 v3) = 0 then (
      kg116 p v1 v2 v3 v6 v7 v8 (v9 + (cn 1)))
    else (
      (G226 p v9) ∧ (
      (inb v9 44) ∧ (
      let x1 : Int32 := ((F226 p v9) - (p.1 13 29 (v9).toNatClampNeg))
      if v7 < v8 then (
        (inb v9 44) ∧ (
        (inb v9 44) ∧ (
        let p4 : PM := pI p 13 29 (v9).toNatClampNeg ((p.1 13 29 (v9).toNatClampNeg) + x1)
        kg116 p4 v1 v2 v3 (v6 - x1) v7 v8 (v9 + (cn 1)))))
      else (
        if v7 = 0 then (
          (inb v9 44) ∧ (
          (inb v9 44) ∧ (
          let p3 : PM := pI p 13 29 (v9).toNatClampNeg ((p.1 13 29 (v9).toNatClampNeg) + (cn 0))
          kg116 p3 v1 v2 v3 (v6 - (cn 0)) v7 v8 (v9 + (cn 1)))))
        else (
          (¬ v7 = 0) ∧ (
          (inb v9 44) ∧ (
          (inb v9 44) ∧ (
          let p2 : PM := pI p 13 29 (v9).toNatClampNeg ((p.1 13 29 (v9).toNatClampNeg) + ((v8 * x1) / v7))
          kg116 p2 v1 v2 v3 (v6 - ((v8 * x1) / v7)) v7 v8 (v9 + (cn 1))))))))))))
  else (
    kg207 p v1 v2 v3 v6 v7 v8)
