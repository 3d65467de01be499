/-! the reference as functions, a ghost beside the class (text of wip/whole/lift.py, chosen by wip/p50/ghost.py) -/
noncomputable def g12_doQuote (p : PM) (v1 : Int32) (v2 : Int32) (v3 : Int32) (v4 : Int32) (v5 : Int32) : Prop := bg12_doQuote v12_in g12_in v12_isPrice g12_isPrice v12_isAccount g12_isAccount g12_doQuote_60 p v1 v2 v3 v4 v5
noncomputable def bv12_doCancel (F218 : PM → Int32 → Int32) (F223 : PM → Int32 → Int32) (p : PM) (v1 : Int32) : Int32 × PM :=
  if (F223 p v1) < 0 then (
    let p7 : PM := pI p 12 1 0 (cn 1)
    if (p7.1 12 1 0) = 0 then (
      let p8 : PM := pI p7 15 3 ((F223 p v1)).toNatClampNeg (cn 0)
      ((p8.1 13 17 ((F223 p v1)).toNatClampNeg), p8))
    else (
      ((cn 0), p7)))
  else (
    if (F218 p (p.1 13 16 ((F223 p v1)).toNatClampNeg)) = 0 then (
      if (p.1 12 1 17) < ((p.1 13 12 ((p.1 13 16 ((F223 p v1)).toNatClampNeg)).toNatClampNeg) - (p.1 13 13 ((p.1 13 16 ((F223 p v1)).toNatClampNeg)).toNatClampNeg)) then (
        let p3 : PM := pI p 12 1 0 (cn 0)
        if (p3.1 12 1 0) = 0 then (
          let p4 : PM := pI p3 15 3 ((F223 p v1)).toNatClampNeg (cn 0)
          ((p4.1 13 17 ((F223 p v1)).toNatClampNeg), p4))
        else (
          ((cn 0), p3)))
      else (
        let p5 : PM := pI p 12 1 0 (cn 2)
        if (p5.1 12 1 0) = 0 then (
          let p6 : PM := pI p5 15 3 ((F223 p v1)).toNatClampNeg (cn 0)
          ((p6.1 13 17 ((F223 p v1)).toNatClampNeg), p6))
        else (
          ((cn 0), p5))))
    else (
      let p1 : PM := pI p 12 1 0 (cn 0)
      if (p1.1 12 1 0) = 0 then (
        let p2 : PM := pI p1 15 3 ((F223 p v1)).toNatClampNeg (cn 0)
        ((p2.1 13 17 ((F223 p v1)).toNatClampNeg), p2))
      else (
        ((cn 0), p1))))
noncomputable def v12_doCancel (p : PM) (v1 : Int32) : Int32 × PM := bv12_doCancel v12_isOpen v12_placeOf p v1
noncomputable def bg12_doCancel (F218 : PM → Int32 → Int32) (G218 : PM → Int32 → Prop) (F223 : PM → Int32 → Int32) (G223 : PM → Int32 → Prop) (p : PM) (v1 : Int32) : Prop :=
  (G223 p v1) ∧ (
  if (F223 p v1) < 0 then (
    let p7 : PM := pI p 12 1 0 (cn 1)
    if (p7.1 12 1 0) = 0 then (
      (inb (F223 p v1) 44) ∧ (
      let p8 : PM := pI p7 15 3 ((F223 p v1)).toNatClampNeg (cn 0)
      (inb (F223 p v1) 44) ∧ (
      True)))
    else (
      True))
  else (
    (inb (F223 p v1) 44) ∧ (
    (G218 p (p.1 13 16 ((F223 p v1)).toNatClampNeg)) ∧ (
    if (F218 p (p.1 13 16 ((F223 p v1)).toNatClampNeg)) = 0 then (
      (inb (F223 p v1) 44) ∧ (
      (inb (p.1 13 16 ((F223 p v1)).toNatClampNeg) 6) ∧ (
      (inb (F223 p v1) 44) ∧ (
      (inb (p.1 13 16 ((F223 p v1)).toNatClampNeg) 6) ∧ (
      if (p.1 12 1 17) < ((p.1 13 12 ((p.1 13 16 ((F223 p v1)).toNatClampNeg)).toNatClampNeg) - (p.1 13 13 ((p.1 13 16 ((F223 p v1)).toNatClampNeg)).toNatClampNeg)) then (
        let p3 : PM := pI p 12 1 0 (cn 0)
        if (p3.1 12 1 0) = 0 then (
          (inb (F223 p v1) 44) ∧ (
          let p4 : PM := pI p3 15 3 ((F223 p v1)).toNatClampNeg (cn 0)
          (inb (F223 p v1) 44) ∧ (
          True)))
        else (
          True))
      else (
        let p5 : PM := pI p 12 1 0 (cn 2)
        if (p5.1 12 1 0) = 0 then (
          (inb (F223 p v1) 44) ∧ (
          let p6 : PM := pI p5 15 3 ((F223 p v1)).toNatClampNeg (cn 0)
          (inb (F223 p v1) 44) ∧ (
          True)))
        else (
          True)))))))
    else (
      let p1 : PM := pI p 12 1 0 (cn 0)
      if (p1.1 12 1 0) = 0 then (
        (inb (F223 p v1) 44) ∧ (
        let p2 : PM := pI p1 15 3 ((F223 p v1)).toNatClampNeg (cn 0)
        (inb (F223 p v1) 44) ∧ (
        True)))
      else (
        True))))))
noncomputable def g12_doCancel (p : PM) (v1 : Int32) : Prop := bg12_doCancel v12_isOpen g12_isOpen v12_placeOf g12_placeOf p v1
noncomputable def bv12_doRule_43 (p : PM) (v1 : Int32) (v2 : Int32) (v3 : Int32) (v4 : Int32) : Int32 × PM :=
  let p1 : PM := pI p 12 1 0 (cn 2)
  if (p1.1 12 1 0) = 0 then (
    let x5 : Int32 := (p1.1 13 6 (v1).toNatClampNeg)
    if (p1.1 12 1 0) = 0 then (
      let p6 : PM := pI p1 13 6 (v1).toNatClampNeg v2
      let p7 : PM := pI p6 13 7 (v1).toNatClampNeg v3
      let p8 : PM := pI p7 13 8 (v1).toNatClampNeg v4
      (x5, p8))
    else (
      (x5, p1)))
  else (
    if (p1.1 12 1 0) = 0 then (
      let p2 : PM := pI p1 13 6 (v1).toNatClampNeg v2
      let p3 : PM := pI p2 13 7 (v1).toNatClampNeg v3
      let p4 : PM := pI p3 13 8 (v1).toNatClampNeg v4
      ((cn 0), p4))
    else (
      ((cn 0), p1)))
noncomputable def v12_doRule_43 (p : PM) (v1 : Int32) (v2 : Int32) (v3 : Int32) (v4 : Int32) : Int32 × PM := bv12_doRule_43 p v1 v2 v3 v4
noncomputable def bg12_doRule_43 (p : PM) (v1 : Int32) (v2 : Int32) (v3 : Int32) (v4 : Int32) : Prop :=
  let p1 : PM := pI p 12 1 0 (cn 2)
  if (p1.1 12 1 0) = 0 then (
    (inb v1 6) ∧ (
    let x5 : Int32 := (p1.1 13 6 (v1).toNatClampNeg)
    if (p1.1 12 1 0) = 0 then (
      (inb v1 6) ∧ (
      let p6 : PM := pI p1 13 6 (v1).toNatClampNeg v2
      (inb v1 6) ∧ (
      let p7 : PM := pI p6 13 7 (v1).toNatClampNeg v3
      (inb v1 6) ∧ (
      let p8 : PM := pI p7 13 8 (v1).toNatClampNeg v4
      True))))
    else (
      True)))
  else (
    if (p1.1 12 1 0) = 0 then (
      (inb v1 6) ∧ (
      let p2 : PM := pI p1 13 6 (v1).toNatClampNeg v2
      (inb v1 6) ∧ (
      let p3 : PM := pI p2 13 7 (v1).toNatClampNeg v3
      (inb v1 6) ∧ (
      let p4 : PM := pI p3 13 8 (v1).toNatClampNeg v4
      True))))
    else (
      True))
noncomputable def g12_doRule_43 (p : PM) (v1 : Int32) (v2 : Int32) (v3 : Int32) (v4 : Int32) : Prop := bg12_doRule_43 p v1 v2 v3 v4
noncomputable def bv12_doRule (F215 : PM → Int32 → Int32 → Int32 → Int32) (kv43 : PM → Int32 → Int32 → Int32 → Int32 → Int32 × PM) (p : PM) (v1 : Int32) (v2 : Int32) (v3 : Int32) (v4 : Int32) : Int32 × PM :=
  if (F215 p v1 (cn 0) (cn 5)) = 0 then (
    let p9 : PM := pI p 12 1 0 (cn 1)
    if (p9.1 12 1 0) = 0 then (
      let x13 : Int32 := (p9.1 13 6 (v1).toNatClampNeg)
      if (p9.1 12 1 0) = 0 then (
        let p14 : PM := pI p9 13 6 (v1).toNatClampNeg v2
        let p15 : PM := pI p14 13 7 (v1).toNatClampNeg v3
        let p16 : PM := pI p15 13 8 (v1).toNatClampNeg v4
        (x13, p16))
      else (
        (x13, p9)))
    else (
      if (p9.1 12 1 0) = 0 then (
        let p10 : PM := pI p9 13 6 (v1).toNatClampNeg v2
        let p11 : PM := pI p10 13 7 (v1).toNatClampNeg v3
        let p12 : PM := pI p11 13 8 (v1).toNatClampNeg v4
        ((cn 0), p12))
      else (
        ((cn 0), p9))))
  else (
    if (F215 p v2 (cn 0) (cn 2)) = 0 then (
      kv43 p v1 v2 v3 v4)
    else (
      if (F215 p v3 (cn 0) (cn 50)) = 0 then (
        kv43 p v1 v2 v3 v4)
      else (
        if (F215 p v4 (cn 0) (cn 2)) = 0 then (
          kv43 p v1 v2 v3 v4)
        else (
          let p1 : PM := pI p 12 1 0 (cn 0)
          if (p1.1 12 1 0) = 0 then (
            let x5 : Int32 := (p1.1 13 6 (v1).toNatClampNeg)
            if (p1.1 12 1 0) = 0 then (
              let p6 : PM := pI p1 13 6 (v1).toNatClampNeg v2
              let p7 : PM := pI p6 13 7 (v1).toNatClampNeg v3
              let p8 : PM := pI p7 13 8 (v1).toNatClampNeg v4
              (x5, p8))
            else (
              (x5, p1)))
          else (
            if (p1.1 12 1 0) = 0 then (
              let p2 : PM := pI p1 13 6 (v1).toNatClampNeg v2
              let p3 : PM := pI p2 13 7 (v1).toNatClampNeg v3
              let p4 : PM := pI p3 13 8 (v1).toNatClampNeg v4
              ((cn 0), p4))
            else (
              ((cn 0), p1)))))))
noncomputable def v12_doRule (p : PM) (v1 : Int32) (v2 : Int32) (v3 : Int32) (v4 : Int32) : Int32 × PM := bv12_doRule v12_in v12_doRule_43 p v1 v2 v3 v4
noncomputable def bg12_doRule (F215 : PM → Int32 → Int32 → Int32 → Int32) (G215 : PM → Int32 → Int32 → Int32 → Prop) (kg43 : PM → Int32 → Int32 → Int32 → Int32 → Prop) (p : PM) (v1 : Int32) (v2 : Int32) (v3 : Int32) (v4 : Int32) : Prop :=
  (G215 p v1 (cn 0) (cn 5)) ∧ (
  if (F215 p v1 (cn 0) (cn 5)) = 0 then (
    let p9 : PM := pI p 12 1 0 (cn 1)
    if (p9.1 12 1 0) = 0 then (
      (inb v1 6) ∧ (
      let x13 : Int32 := (p9.1 13 6 (v1).toNatClampNeg)
      if (p9.1 12 1 0) = 0 then (
        (inb v1 6) ∧ (
        let p14 : PM := pI p9 13 6 (v1).toNatClampNeg v2
        (inb v1 6) ∧ (
        let p15 : PM := pI p14 13 7 (v1).toNatClampNeg v3
        (inb v1 6) ∧ (
        let p16 : PM := pI p15 13 8 (v1).toNatClampNeg v4
        True))))
      else (
        True)))
    else (
      if (p9.1 12 1 0) = 0 then (
        (inb v1 6) ∧ (
        let p10 : PM := pI p9 13 6 (v1).toNatClampNeg v2
        (inb v1 6) ∧ (
        let p11 : PM := pI p10 13 7 (v1).toNatClampNeg v3
        (inb v1 6) ∧ (
        let p12 : PM := pI p11 13 8 (v1).toNatClampNeg v4
        True))))
      else (
        True)))
  else (
    (G215 p v2 (cn 0) (cn 2)) ∧ (
    if (F215 p v2 (cn 0) (cn 2)) = 0 then (
      kg43 p v1 v2 v3 v4)
    else (
      (G215 p v3 (cn 0) (cn 50)) ∧ (
      if (F215 p v3 (cn 0) (cn 50)) = 0 then (
        kg43 p v1 v2 v3 v4)
      else (
        (G215 p v4 (cn 0) (cn 2)) ∧ (
        if (F215 p v4 (cn 0) (cn 2)) = 0 then (
          kg43 p v1 v2 v3 v4)
        else (
          let p1 : PM := pI p 12 1 0 (cn 0)
          if (p1.1 12 1 0) = 0 then (
            (inb v1 6) ∧ (
            let x5 : Int32 := (p1.1 13 6 (v1).toNatClampNeg)
            if (p1.1 12 1 0) = 0 then (
              (inb v1 6) ∧ (
              let p6 : PM := pI p1 13 6 (v1).toNatClampNeg v2
              (inb v1 6) ∧ (
              let p7 : PM := pI p6 13 7 (v1).toNatClampNeg v3
              (inb v1 6) ∧ (
              let p8 : PM := pI p7 13 8 (v1).toNatClampNeg v4
              True))))
            else (
              True)))
          else (
            if (p1.1 12 1 0) = 0 then (
              (inb v1 6) ∧ (
              let p2 : PM := pI p1 13 6 (v1).toNatClampNeg v2
              (inb v1 6) ∧ (
              let p3 : PM := pI p2 13 7 (v1).toNatClampNeg v3
              (inb v1 6) ∧ (
              let p4 : PM := pI p3 13 8 (v1).toNatClampNeg v4
              True))))
            else (
              True))))))))))
noncomputable def g12_doRule (p : PM) (v1 : Int32) (v2 : Int32) (v3 : Int32) (v4 : Int32) : Prop := bg12_doRule v12_in g12_in g12_doRule_43 p v1 v2 v3 v4
noncomputable def bv12_puts (p : PM) (v1 : Nat) (v2 : Int32) (v3 : Int32) (v4 : Int32) (v5 : Int32) : Int32 × PM :=
  if v3 = 0 then (
    let p9 : PM := pI p 12 1 0 (cn 1)
    if (p9.1 12 1 0) = 0 then (
      let x11 : Int32 := (p9.1 13 v1 (v2).toNatClampNeg)
      if (p9.1 12 1 0) = 0 then (
        let p12 : PM := pI p9 13 v1 (v2).toNatClampNeg v4
        (x11, p12))
      else (
        (x11, p9)))
    else (
      if (p9.1 12 1 0) = 0 then (
        let p10 : PM := pI p9 13 v1 (v2).toNatClampNeg v4
        ((cn 0), p10))
      else (
        ((cn 0), p9))))
  else (
    if v5 = 0 then (
      let p5 : PM := pI p 12 1 0 (cn 2)
      if (p5.1 12 1 0) = 0 then (
        let x7 : Int32 := (p5.1 13 v1 (v2).toNatClampNeg)
        if (p5.1 12 1 0) = 0 then (
          let p8 : PM := pI p5 13 v1 (v2).toNatClampNeg v4
          (x7, p8))
        else (
          (x7, p5)))
      else (
        if (p5.1 12 1 0) = 0 then (
          let p6 : PM := pI p5 13 v1 (v2).toNatClampNeg v4
          ((cn 0), p6))
        else (
          ((cn 0), p5))))
    else (
      let p1 : PM := pI p 12 1 0 (cn 0)
      if (p1.1 12 1 0) = 0 then (
        let x3 : Int32 := (p1.1 13 v1 (v2).toNatClampNeg)
        if (p1.1 12 1 0) = 0 then (
          let p4 : PM := pI p1 13 v1 (v2).toNatClampNeg v4
          (x3, p4))
        else (
          (x3, p1)))
      else (
        if (p1.1 12 1 0) = 0 then (
          let p2 : PM := pI p1 13 v1 (v2).toNatClampNeg v4
          ((cn 0), p2))
        else (
          ((cn 0), p1)))))
noncomputable def v12_puts (p : PM) (v1 : Nat) (v2 : Int32) (v3 : Int32) (v4 : Int32) (v5 : Int32) : Int32 × PM := bv12_puts p v1 v2 v3 v4 v5
noncomputable def bg12_puts (p : PM) (v1 : Nat) (v2 : Int32) (v3 : Int32) (v4 : Int32) (v5 : Int32) : Prop :=
  if v3 = 0 then (
    let p9 : PM := pI p 12 1 0 (cn 1)
    if (p9.1 12 1 0) = 0 then (
      ((¬ v1 = 0 ∧ inb v2 (zln 2 13 v1))) ∧ (
      let x11 : Int32 := (p9.1 13 v1 (v2).toNatClampNeg)
      if (p9.1 12 1 0) = 0 then (
        ((¬ v1 = 0 ∧ inb v2 (zln 2 13 v1))) ∧ (
        let p12 : PM := pI p9 13 v1 (v2).toNatClampNeg v4
        True))
      else (
        True)))
    else (
      if (p9.1 12 1 0) = 0 then (
        ((¬ v1 = 0 ∧ inb v2 (zln 2 13 v1))) ∧ (
        let p10 : PM := pI p9 13 v1 (v2).toNatClampNeg v4
        True))
      else (
        True)))
  else (
    if v5 = 0 then (
      let p5 : PM := pI p 12 1 0 (cn 2)
      if (p5.1 12 1 0) = 0 then (
        ((¬ v1 = 0 ∧ inb v2 (zln 2 13 v1))) ∧ (
        let x7 : Int32 := (p5.1 13 v1 (v2).toNatClampNeg)
        if (p5.1 12 1 0) = 0 then (
          ((¬ v1 = 0 ∧ inb v2 (zln 2 13 v1))) ∧ (
          let p8 : PM := pI p5 13 v1 (v2).toNatClampNeg v4
          True))
        else (
          True)))
      else (
        if (p5.1 12 1 0) = 0 then (
          ((¬ v1 = 0 ∧ inb v2 (zln 2 13 v1))) ∧ (
          let p6 : PM := pI p5 13 v1 (v2).toNatClampNeg v4
          True))
        else (
          True)))
    else (
      let p1 : PM := pI p 12 1 0 (cn 0)
      if (p1.1 12 1 0) = 0 then (
        ((¬ v1 = 0 ∧ inb v2 (zln 2 13 v1))) ∧ (
        let x3 : Int32 := (p1.1 13 v1 (v2).toNatClampNeg)
        if (p1.1 12 1 0) = 0 then (
          ((¬ v1 = 0 ∧ inb v2 (zln 2 13 v1))) ∧ (
          let p4 : PM := pI p1 13 v1 (v2).toNatClampNeg v4
          True))
        else (
          True)))
      else (
        if (p1.1 12 1 0) = 0 then (
          ((¬ v1 = 0 ∧ inb v2 (zln 2 13 v1))) ∧ (
          let p2 : PM := pI p1 13 v1 (v2).toNatClampNeg v4
          True))
        else (
          True))))
noncomputable def g12_puts (p : PM) (v1 : Nat) (v2 : Int32) (v3 : Int32) (v4 : Int32) (v5 : Int32) : Prop := bg12_puts p v1 v2 v3 v4 v5
noncomputable def bv12_doAuction (F215 : PM → Int32 → Int32 → Int32 → Int32) (F218 : PM → Int32 → Int32) (F254 : PM → Int32 → Int32 → Int32 → PM) (p : PM) (v1 : Int32) (v2 : Int32) (v3 : Int32) (v4 : Int32) : Int32 × PM :=
  if (F215 p v1 (cn 0) (cn 5)) = 0 then (
    let p11 : PM := pI p 12 1 0 (cn 1)
    if (p11.1 12 1 0) = 0 then (
      let p12 : PM := F254 p11 v1 (((p11.1 12 1 17) + v2) + v4) v3
      ((p12.1 13 12 (v1).toNatClampNeg), p12))
    else (
      ((cn 0), p11)))
  else (
    if (F215 p v2 (cn 1) (cn 20)) = 0 then (
      let p1 : PM := pI p 12 1 0 (cn 2)
      if (p1.1 12 1 0) = 0 then (
        let p2 : PM := F254 p1 v1 (((p1.1 12 1 17) + v2) + v4) v3
        ((p2.1 13 12 (v1).toNatClampNeg), p2))
      else (
        ((cn 0), p1)))
    else (
      if (F215 p v3 (cn 0) v2) = 0 then (
        let p3 : PM := pI p 12 1 0 (cn 2)
        if (p3.1 12 1 0) = 0 then (
          let p4 : PM := F254 p3 v1 (((p3.1 12 1 17) + v2) + v4) v3
          ((p4.1 13 12 (v1).toNatClampNeg), p4))
        else (
          ((cn 0), p3)))
      else (
        if (F215 p v4 (cn 0) (cn 9)) = 0 then (
          let p9 : PM := pI p 12 1 0 (cn 2)
          if (p9.1 12 1 0) = 0 then (
            let p10 : PM := F254 p9 v1 (((p9.1 12 1 17) + v2) + v4) v3
            ((p10.1 13 12 (v1).toNatClampNeg), p10))
          else (
            ((cn 0), p9)))
        else (
          if (F218 p v1) = 0 then (
            let p7 : PM := pI p 12 1 0 (cn 3)
            if (p7.1 12 1 0) = 0 then (
              let p8 : PM := F254 p7 v1 (((p7.1 12 1 17) + v2) + v4) v3
              ((p8.1 13 12 (v1).toNatClampNeg), p8))
            else (
              ((cn 0), p7)))
          else (
            let p5 : PM := pI p 12 1 0 (cn 0)
            if (p5.1 12 1 0) = 0 then (
              let p6 : PM := F254 p5 v1 (((p5.1 12 1 17) + v2) + v4) v3
              ((p6.1 13 12 (v1).toNatClampNeg), p6))
            else (
              ((cn 0), p5)))))))
noncomputable def v12_doAuction (p : PM) (v1 : Int32) (v2 : Int32) (v3 : Int32) (v4 : Int32) : Int32 × PM := bv12_doAuction v12_in v12_isOpen v12_beginsAuction p v1 v2 v3 v4
noncomputable def bg12_doAuction (F215 : PM → Int32 → Int32 → Int32 → Int32) (G215 : PM → Int32 → Int32 → Int32 → Prop) (F218 : PM → Int32 → Int32) (G218 : PM → Int32 → Prop) (F254 : PM → Int32 → Int32 → Int32 → PM) (G254 : PM → Int32 → Int32 → Int32 → Prop) (p : PM) (v1 : Int32) (v2 : Int32) (v3 : Int32) (v4 : Int32) : Prop :=
  (G215 p v1 (cn 0) (cn 5)) ∧ (
  if (F215 p v1 (cn 0) (cn 5)) = 0 then (
    let p11 : PM := pI p 12 1 0 (cn 1)
    if (p11.1 12 1 0) = 0 then (
      (G254 p11 v1 (((p11.1 12 1 17) + v2) + v4) v3) ∧ (
      let p12 : PM := F254 p11 v1 (((p11.1 12 1 17) + v2) + v4) v3
      (inb v1 6) ∧ (
      True)))
    else (
      True))
  else (
    (G215 p v2 (cn 1) (cn 20)) ∧ (
    if (F215 p v2 (cn 1) (cn 20)) = 0 then (
      let p1 : PM := pI p 12 1 0 (cn 2)
      if (p1.1 12 1 0) = 0 then (
        (G254 p1 v1 (((p1.1 12 1 17) + v2) + v4) v3) ∧ (
        let p2 : PM := F254 p1 v1 (((p1.1 12 1 17) + v2) + v4) v3
        (inb v1 6) ∧ (
        True)))
      else (
        True))
    else (
      (G215 p v3 (cn 0) v2) ∧ (
      if (F215 p v3 (cn 0) v2) = 0 then (
        let p3 : PM := pI p 12 1 0 (cn 2)
        if (p3.1 12 1 0) = 0 then (
          (G254 p3 v1 (((p3.1 12 1 17) + v2) + v4) v3) ∧ (
          let p4 : PM := F254 p3 v1 (((p3.1 12 1 17) + v2) + v4) v3
          (inb v1 6) ∧ (
          True)))
        else (
          True))
      else (
        (G215 p v4 (cn 0) (cn 9)) ∧ (
        if (F215 p v4 (cn 0) (cn 9)) = 0 then (
          let p9 : PM := pI p 12 1 0 (cn 2)
          if (p9.1 12 1 0) = 0 then (
            (G254 p9 v1 (((p9.1 12 1 17) + v2) + v4) v3) ∧ (
            let p10 : PM := F254 p9 v1 (((p9.1 12 1 17) + v2) + v4) v3
            (inb v1 6) ∧ (
            True)))
          else (
            True))
        else (
          (G218 p v1) ∧ (
          if (F218 p v1) = 0 then (
            let p7 : PM := pI p 12 1 0 (cn 3)
            if (p7.1 12 1 0) = 0 then (
              (G254 p7 v1 (((p7.1 12 1 17) + v2) + v4) v3) ∧ (
              let p8 : PM := F254 p7 v1 (((p7.1 12 1 17) + v2) + v4) v3
              (inb v1 6) ∧ (
              True)))
            else (
              True))
          else (
            let p5 : PM := pI p 12 1 0 (cn 0)
            if (p5.1 12 1 0) = 0 then (
              (G254 p5 v1 (((p5.1 12 1 17) + v2) + v4) v3) ∧ (
              let p6 : PM := F254 p5 v1 (((p5.1 12 1 17) + v2) + v4) v3
              (inb v1 6) ∧ (
              True)))
            else (
              True)))))))))))
noncomputable def g12_doAuction (p : PM) (v1 : Int32) (v2 : Int32) (v3 : Int32) (v4 : Int32) : Prop := bg12_doAuction v12_in g12_in v12_isOpen g12_isOpen v12_beginsAuction g12_beginsAuction p v1 v2 v3 v4
noncomputable def bv12_doPass (F215 : PM → Int32 → Int32 → Int32 → Int32) (F274 : PM → Int32 → PM) (p : PM) (v1 : Int32) : Int32 × PM :=
  if (F215 p v1 (cn 1) (cn 20)) = 0 then (
    let p1 : PM := pI p 12 1 0 (cn 1)
    if (p1.1 12 1 0) = 0 then (
      let p2 : PM := F274 p1 v1
      if (p2.1 12 1 0) = 0 then (
        ((p2.1 12 1 17), p2))
      else (
        ((cn 0), p2)))
    else (
      if (p1.1 12 1 0) = 0 then (
        ((p1.1 12 1 17), p1))
      else (
        ((cn 0), p1))))
  else (
    let p3 : PM := pI p 12 1 0 (cn 0)
    if (p3.1 12 1 0) = 0 then (
      let p4 : PM := F274 p3 v1
      if (p4.1 12 1 0) = 0 then (
        ((p4.1 12 1 17), p4))
      else (
        ((cn 0), p4)))
    else (
      if (p3.1 12 1 0) = 0 then (
        ((p3.1 12 1 17), p3))
      else (
        ((cn 0), p3))))
noncomputable def v12_doPass (p : PM) (v1 : Int32) : Int32 × PM := bv12_doPass v12_in v12_passes p v1
noncomputable def bg12_doPass (F215 : PM → Int32 → Int32 → Int32 → Int32) (G215 : PM → Int32 → Int32 → Int32 → Prop) (F274 : PM → Int32 → PM) (G274 : PM → Int32 → Prop) (p : PM) (v1 : Int32) : Prop :=
  (G215 p v1 (cn 1) (cn 20)) ∧ (
  if (F215 p v1 (cn 1) (cn 20)) = 0 then (
    let p1 : PM := pI p 12 1 0 (cn 1)
    if (p1.1 12 1 0) = 0 then (
      (G274 p1 v1) ∧ (
      let p2 : PM := F274 p1 v1
      if (p2.1 12 1 0) = 0 then (
        True)
      else (
        True)))
    else (
      if (p1.1 12 1 0) = 0 then (
        True)
      else (
        True)))
  else (
    let p3 : PM := pI p 12 1 0 (cn 0)
    if (p3.1 12 1 0) = 0 then (
      (G274 p3 v1) ∧ (
      let p4 : PM := F274 p3 v1
      if (p4.1 12 1 0) = 0 then (
        True)
      else (
        True)))
    else (
      if (p3.1 12 1 0) = 0 then (
        True)
      else (
        True))))
noncomputable def g12_doPass (p : PM) (v1 : Int32) : Prop := bg12_doPass v12_in g12_in v12_passes g12_passes p v1
noncomputable def bv12_doEndDay_101 (kv101 : PM → Int32 → Int32 → Int32 → Int32 × PM) (p : PM) (v1 : Int32) (v2 : Int32) (v3 : Int32) : Int32 × PM :=
  if v3 < (cn 6) then (
    if v1 = 0 then (
      if v1 = 0 then (
        let p3 : PM := pI p 12 1 18 ((p.1 12 1 18) + (cn 0))
        (v2, p3))
      else (
        let p4 : PM := pI p 12 1 18 ((p.1 12 1 18) + (cn 1))
        (v2, p4)))
    else (
      let p5 : PM := pI p 13 11 (v3).toNatClampNeg (p.1 13 10 (v3).toNatClampNeg)
      kv101 p5 v1 v2 (v3 + (cn 1))))
  else (
    if v1 = 0 then (
      let p1 : PM := pI p 12 1 18 ((p.1 12 1 18) + (cn 0))
      (v2, p1))
    else (
      let p2 : PM := pI p 12 1 18 ((p.1 12 1 18) + (cn 1))
      (v2, p2)))
noncomputable def v12_doEndDay_101 (n : Nat) : PM → Int32 → Int32 → Int32 → Int32 × PM := Nat.rec (motive := fun _ => PM → Int32 → Int32 → Int32 → Int32 × PM) (fun p _ _ _ => (0, p)) (fun _ ih => bv12_doEndDay_101 ih) n
theorem ev12_doEndDay_101 (n : Nat) (p : PM) (v1 : Int32) (v2 : Int32) (v3 : Int32) : v12_doEndDay_101 (n + 1) p v1 v2 v3 = bv12_doEndDay_101 (v12_doEndDay_101 n) p v1 v2 v3 := rfl
noncomputable def bg12_doEndDay_101 (kg101 : PM → Int32 → Int32 → Int32 → Prop) (p : PM) (v1 : Int32) (v2 : Int32) (v3 : Int32) : Prop :=
  if v3 < (cn 6) then (
    if v1 = 0 then (
      if v1 = 0 then (
        let p3 : PM := pI p 12 1 18 ((p.1 12 1 18) + (cn 0))
        True)
      else (
        let p4 : PM := pI p 12 1 18 ((p.1 12 1 18) + (cn 1))
        True))
    else (
      (inb v3 6) ∧ (
      (inb v3 6) ∧ (
      let p5 : PM := pI p 13 11 (v3).toNatClampNeg (p.1 13 10 (v3).toNatClampNeg)
      kg101 p5 v1 v2 (v3 + (cn 1))))))
  else (
    if v1 = 0 then (
      let p1 : PM := pI p 12 1 18 ((p.1 12 1 18) + (cn 0))
      True)
    else (
      let p2 : PM := pI p 12 1 18 ((p.1 12 1 18) + (cn 1))
      True))
noncomputable def g12_doEndDay_101 (n : Nat) : PM → Int32 → Int32 → Int32 → Prop := Nat.rec (motive := fun _ => PM → Int32 → Int32 → Int32 → Prop) (fun _ _ _ _ => False) (fun _ ih => bg12_doEndDay_101 ih) n
theorem eg12_doEndDay_101 (n : Nat) (p : PM) (v1 : Int32) (v2 : Int32) (v3 : Int32) : g12_doEndDay_101 (n + 1) p v1 v2 v3 = bg12_doEndDay_101 (g12_doEndDay_101 n) p v1 v2 v3 := rfl
noncomputable def bv12_doEndDay_51 (kv51 : PM → Int32 → Int32 → Int32 → Int32 × PM) (kv101 : PM → Int32 → Int32 → Int32 → Int32 × PM) (p : PM) (v1 : Int32) (v2 : Int32) (v3 : Int32) : Int32 × PM :=
  if v3 < (cn 44) then (
    if v1 = 0 then (
      kv101 p v1 v2 (cn 0))
    else (
      if (p.1 15 3 (v3).toNatClampNeg) = 0 then (
        kv51 p v1 v2 (v3 + (cn 1)))
      else (
        if (p.1 12 1 18) < (p.1 13 20 (v3).toNatClampNeg) then (
          kv51 p v1 v2 (v3 + (cn 1)))
        else (
          let p1 : PM := pI p 15 3 (v3).toNatClampNeg (cn 0)
          kv51 p1 v1 (v2 + (cn 1)) (v3 + (cn 1))))))
  else (
    kv101 p v1 v2 (cn 0))
noncomputable def v12_doEndDay_51 (n : Nat) : PM → Int32 → Int32 → Int32 → Int32 × PM := Nat.rec (motive := fun _ => PM → Int32 → Int32 → Int32 → Int32 × PM) (fun p _ _ _ => (0, p)) (fun _ ih => bv12_doEndDay_51 ih (v12_doEndDay_101 FU)) n
theorem ev12_doEndDay_51 (n : Nat) (p : PM) (v1 : Int32) (v2 : Int32) (v3 : Int32) : v12_doEndDay_51 (n + 1) p v1 v2 v3 = bv12_doEndDay_51 (v12_doEndDay_51 n) (v12_doEndDay_101 FU) p v1 v2 v3 := rfl
noncomputable def bg12_doEndDay_51 (kg51 : PM → Int32 → Int32 → Int32 → Prop) (kg101 : PM → Int32 → Int32 → Int32 → Prop) (p : PM) (v1 : Int32) (v2 : Int32) (v3 : Int32) : Prop :=
  if v3 < (cn 44) then (
    if v1 = 0 then (
      kg101 p v1 v2 (cn 0))
    else (
      (inb v3 44) ∧ (
      if (p.1 15 3 (v3).toNatClampNeg) = 0 then (
        kg51 p v1 v2 (v3 + (cn 1)))
      else (
        (inb v3 44) ∧ (
        if (p.1 12 1 18) < (p.1 13 20 (v3).toNatClampNeg) then (
          kg51 p v1 v2 (v3 + (cn 1)))
        else (
          (inb v3 44) ∧ (
          let p1 : PM := pI p 15 3 (v3).toNatClampNeg (cn 0)
          kg51 p1 v1 (v2 + (cn 1)) (v3 + (cn 1)))))))))
  else (
    kg101 p v1 v2 (cn 0))
noncomputable def g12_doEndDay_51 (n : Nat) : PM → Int32 → Int32 → Int32 → Prop := Nat.rec (motive := fun _ => PM → Int32 → Int32 → Int32 → Prop) (fun _ _ _ _ => False) (fun _ ih => bg12_doEndDay_51 ih (g12_doEndDay_101 FU)) n
theorem eg12_doEndDay_51 (n : Nat) (p : PM) (v1 : Int32) (v2 : Int32) (v3 : Int32) : g12_doEndDay_51 (n + 1) p v1 v2 v3 = bg12_doEndDay_51 (g12_doEndDay_51 n) (g12_doEndDay_101 FU) p v1 v2 v3 := rfl
noncomputable def bv12_doEndDay_4 (F218 : PM → Int32 → Int32) (kv4 : PM → Int32 → Int32 → Int32 × PM) (kv51 : PM → Int32 → Int32 → Int32 → Int32 × PM) (p : PM) (v1 : Int32) (v2 : Int32) : Int32 × PM :=
  if v2 < (cn 6) then (
    if v1 = 0 then (
      kv4 p (cn 0) (v2 + (cn 1)))
    else (
      if (F218 p v2) = 0 then (
        kv4 p (cn 0) (v2 + (cn 1)))
      else (
        kv4 p (cn 1) (v2 + (cn 1)))))
  else (
    if v1 = 0 then (
      let p1 : PM := pI p 12 1 0 (cn 1)
      kv51 p1 v1 (cn 0) (cn 0))
    else (
      let p2 : PM := pI p 12 1 0 (cn 0)
      kv51 p2 v1 (cn 0) (cn 0)))
noncomputable def v12_doEndDay_4 (n : Nat) : PM → Int32 → Int32 → Int32 × PM := Nat.rec (motive := fun _ => PM → Int32 → Int32 → Int32 × PM) (fun p _ _ => (0, p)) (fun _ ih => bv12_doEndDay_4 v12_isOpen ih (v12_doEndDay_51 FU)) n
theorem ev12_doEndDay_4 (n : Nat) (p : PM) (v1 : Int32) (v2 : Int32) : v12_doEndDay_4 (n + 1) p v1 v2 = bv12_doEndDay_4 v12_isOpen (v12_doEndDay_4 n) (v12_doEndDay_51 FU) p v1 v2 := rfl
noncomputable def bg12_doEndDay_4 (F218 : PM → Int32 → Int32) (G218 : PM → Int32 → Prop) (kg4 : PM → Int32 → Int32 → Prop) (kg51 : PM → Int32 → Int32 → Int32 → Prop) (p : PM) (v1 : Int32) (v2 : Int32) : Prop :=
  if v2 < (cn 6) then (
    if v1 = 0 then (
      kg4 p (cn 0) (v2 + (cn 1)))
    else (
      (G218 p v2) ∧ (
      if (F218 p v2) = 0 then (
        kg4 p (cn 0) (v2 + (cn 1)))
      else (
        kg4 p (cn 1) (v2 + (cn 1))))))
  else (
    if v1 = 0 then (
      let p1 : PM := pI p 12 1 0 (cn 1)
      kg51 p1 v1 (cn 0) (cn 0))
    else (
      let p2 : PM := pI p 12 1 0 (cn 0)
      kg51 p2 v1 (cn 0) (cn 0)))
noncomputable def g12_doEndDay_4 (n : Nat) : PM → Int32 → Int32 → Prop := Nat.rec (motive := fun _ => PM → Int32 → Int32 → Prop) (fun _ _ _ => False) (fun _ ih => bg12_doEndDay_4 v12_isOpen g12_isOpen ih (g12_doEndDay_51 FU)) n
theorem eg12_doEndDay_4 (n : Nat) (p : PM) (v1 : Int32) (v2 : Int32) : g12_doEndDay_4 (n + 1) p v1 v2 = bg12_doEndDay_4 v12_isOpen g12_isOpen (g12_doEndDay_4 n) (g12_doEndDay_51 FU) p v1 v2 := rfl
noncomputable def bv12_doEndDay (kv4 : PM → Int32 → Int32 → Int32 × PM) (p : PM) : Int32 × PM :=
  kv4 p (cn 1) (cn 0)
noncomputable def v12_doEndDay (p : PM) : Int32 × PM := bv12_doEndDay (v12_doEndDay_4 FU) p
noncomputable def bg12_doEndDay (kg4 : PM → Int32 → Int32 → Prop) (p : PM) : Prop :=
  kg4 p (cn 1) (cn 0)
noncomputable def g12_doEndDay (p : PM) : Prop := bg12_doEndDay (g12_doEndDay_4 FU) p
noncomputable def bv12_undoes (F232 : PM → Int32 → Int32 → Int32 → Int32 → PM) (p : PM) (v1 : Int32) (v2 : Int32) (v3 : Int32) : PM :=
  let p1 : PM := F232 p v1 (p.1 13 30 (v2).toNatClampNeg) v3 (p.1 13 33 (v2).toNatClampNeg)
  p1
noncomputable def v12_undoes (p : PM) (v1 : Int32) (v2 : Int32) (v3 : Int32) : PM := bv12_undoes v12_holds p v1 v2 v3
noncomputable def bg12_undoes (F232 : PM → Int32 → Int32 → Int32 → Int32 → PM) (G232 : PM → Int32 → Int32 → Int32 → Int32 → Prop) (p : PM) (v1 : Int32) (v2 : Int32) (v3 : Int32) : Prop :=
  (inb v2 60) ∧ (
  (inb v2 60) ∧ (
  (G232 p v1 (p.1 13 30 (v2).toNatClampNeg) v3 (p.1 13 33 (v2).toNatClampNeg)) ∧ (
  let p1 : PM := F232 p v1 (p.1 13 30 (v2).toNatClampNeg) v3 (p.1 13 33 (v2).toNatClampNeg)
  True)))
noncomputable def g12_undoes (p : PM) (v1 : Int32) (v2 : Int32) (v3 : Int32) : Prop := bg12_undoes v12_holds g12_holds p v1 v2 v3
noncomputable def bv12_doBust_166 (kv166 : PM → Int32 → Int32 → Int32 → Int32 × PM) (p : PM) (v1 : Int32) (v3 : Int32) (v5 : Int32) : Int32 × PM :=
  if v5 < (cn 44) then (
    if (p.1 15 3 (v5).toNatClampNeg) = 0 then (
      kv166 p v1 v3 (v5 + (cn 1)))
    else (
      if (p.1 13 19 (v5).toNatClampNeg) = (cn 3) then (
        if (p.1 13 24 (v5).toNatClampNeg) = (cn 1) then (
          if (p.1 13 28 (v5).toNatClampNeg) = v1 then (
            if (p.1 15 6 (v5).toNatClampNeg) = 0 then (
              let p1 : PM := pI p 13 24 (v5).toNatClampNeg (cn 2)
              let p2 : PM := pI p1 13 28 (v5).toNatClampNeg (cn (-1))
              kv166 p2 v1 v3 (v5 + (cn 1)))
            else (
              kv166 p v1 v3 (v5 + (cn 1))))
          else (
            kv166 p v1 v3 (v5 + (cn 1))))
        else (
          kv166 p v1 v3 (v5 + (cn 1))))
      else (
        kv166 p v1 v3 (v5 + (cn 1)))))
  else (
    ((p.1 13 10 (v3).toNatClampNeg), p))
noncomputable def v12_doBust_166 (n : Nat) : PM → Int32 → Int32 → Int32 → Int32 × PM := Nat.rec (motive := fun _ => PM → Int32 → Int32 → Int32 → Int32 × PM) (fun p _ _ _ => (0, p)) (fun _ ih => bv12_doBust_166 ih) n
theorem ev12_doBust_166 (n : Nat) (p : PM) (v1 : Int32) (v3 : Int32) (v5 : Int32) : v12_doBust_166 (n + 1) p v1 v3 v5 = bv12_doBust_166 (v12_doBust_166 n) p v1 v3 v5 := rfl
noncomputable def bg12_doBust_166 (kg166 : PM → Int32 → Int32 → Int32 → Prop) (p : PM) (v1 : Int32) (v3 : Int32) (v5 : Int32) : Prop :=
  if v5 < (cn 44) then (
    (inb v5 44) ∧ (
    if (p.1 15 3 (v5).toNatClampNeg) = 0 then (
      kg166 p v1 v3 (v5 + (cn 1)))
    else (
      (inb v5 44) ∧ (
      if (p.1 13 19 (v5).toNatClampNeg) = (cn 3) then (
        (inb v5 44) ∧ (
        if (p.1 13 24 (v5).toNatClampNeg) = (cn 1) then (
          (inb v5 44) ∧ (
          if (p.1 13 28 (v5).toNatClampNeg) = v1 then (
            (inb v5 44) ∧ (
            if (p.1 15 6 (v5).toNatClampNeg) = 0 then (
              (inb v5 44) ∧ (
              let p1 : PM := pI p 13 24 (v5).toNatClampNeg (cn 2)
              (inb v5 44) ∧ (
              let p2 : PM := pI p1 13 28 (v5).toNatClampNeg (cn (-1))
              kg166 p2 v1 v3 (v5 + (cn 1)))))
            else (
              kg166 p v1 v3 (v5 + (cn 1)))))
          else (
            kg166 p v1 v3 (v5 + (cn 1)))))
        else (
          kg166 p v1 v3 (v5 + (cn 1)))))
      else (
        kg166 p v1 v3 (v5 + (cn 1)))))))
  else (
    (inb v3 6) ∧ (
    True))
noncomputable def g12_doBust_166 (n : Nat) : PM → Int32 → Int32 → Int32 → Prop := Nat.rec (motive := fun _ => PM → Int32 → Int32 → Int32 → Prop) (fun _ _ _ _ => False) (fun _ ih => bg12_doBust_166 ih) n
theorem eg12_doBust_166 (n : Nat) (p : PM) (v1 : Int32) (v3 : Int32) (v5 : Int32) : g12_doBust_166 (n + 1) p v1 v3 v5 = bg12_doBust_166 (g12_doBust_166 n) p v1 v3 v5 := rfl
noncomputable def bv12_doBust_16 (F234 : PM → Int32 → Int32) (F235 : PM → Int32 → Int32) (F296 : PM → Int32 → Int32 → Int32 → PM) (kv166 : PM → Int32 → Int32 → Int32 → Int32 × PM) (p : PM) (v1 : Int32) (s0 : Int32) : Int32 × PM :=
  if (F234 p v1) = 0 then (
    let p21 : PM := pI p 12 1 0 (cn 1)
    if (p21.1 12 1 0) = 0 then (
      let x22 : Int32 := (p21.1 13 30 (s0).toNatClampNeg)
      if (F235 p21 x22) = v1 then (
        let p26 : PM := F296 p21 (p21.1 13 31 (s0).toNatClampNeg) s0 (-(p21.1 13 34 (s0).toNatClampNeg))
        let p27 : PM := F296 p26 (p26.1 13 32 (s0).toNatClampNeg) s0 (p26.1 13 34 (s0).toNatClampNeg)
        let p28 : PM := pI p27 15 7 (s0).toNatClampNeg (cn 1)
        if (F235 p28 x22) < 0 then (
          let p30 : PM := pI p28 13 10 (x22).toNatClampNeg (p28.1 13 11 (x22).toNatClampNeg)
          kv166 p30 v1 x22 (cn 0))
        else (
          let p29 : PM := pI p28 13 10 (x22).toNatClampNeg (p28.1 13 33 ((irm (F235 p28 x22) (cn 60))).toNatClampNeg)
          kv166 p29 v1 x22 (cn 0)))
      else (
        let p23 : PM := F296 p21 (p21.1 13 31 (s0).toNatClampNeg) s0 (-(p21.1 13 34 (s0).toNatClampNeg))
        let p24 : PM := F296 p23 (p23.1 13 32 (s0).toNatClampNeg) s0 (p23.1 13 34 (s0).toNatClampNeg)
        let p25 : PM := pI p24 15 7 (s0).toNatClampNeg (cn 1)
        kv166 p25 v1 x22 (cn 0)))
    else (
      ((cn 0), p21)))
  else (
    if (p.1 15 7 (s0).toNatClampNeg) = 0 then (
      let p1 : PM := pI p 12 1 0 (cn 0)
      if (p1.1 12 1 0) = 0 then (
        let x2 : Int32 := (p1.1 13 30 (s0).toNatClampNeg)
        if (F235 p1 x2) = v1 then (
          let p6 : PM := F296 p1 (p1.1 13 31 (s0).toNatClampNeg) s0 (-(p1.1 13 34 (s0).toNatClampNeg))
          let p7 : PM := F296 p6 (p6.1 13 32 (s0).toNatClampNeg) s0 (p6.1 13 34 (s0).toNatClampNeg)
          let p8 : PM := pI p7 15 7 (s0).toNatClampNeg (cn 1)
          if (F235 p8 x2) < 0 then (
            let p10 : PM := pI p8 13 10 (x2).toNatClampNeg (p8.1 13 11 (x2).toNatClampNeg)
            kv166 p10 v1 x2 (cn 0))
          else (
            let p9 : PM := pI p8 13 10 (x2).toNatClampNeg (p8.1 13 33 ((irm (F235 p8 x2) (cn 60))).toNatClampNeg)
            kv166 p9 v1 x2 (cn 0)))
        else (
          let p3 : PM := F296 p1 (p1.1 13 31 (s0).toNatClampNeg) s0 (-(p1.1 13 34 (s0).toNatClampNeg))
          let p4 : PM := F296 p3 (p3.1 13 32 (s0).toNatClampNeg) s0 (p3.1 13 34 (s0).toNatClampNeg)
          let p5 : PM := pI p4 15 7 (s0).toNatClampNeg (cn 1)
          kv166 p5 v1 x2 (cn 0)))
      else (
        ((cn 0), p1)))
    else (
      let p11 : PM := pI p 12 1 0 (cn 2)
      if (p11.1 12 1 0) = 0 then (
        let x12 : Int32 := (p11.1 13 30 (s0).toNatClampNeg)
        if (F235 p11 x12) = v1 then (
          let p16 : PM := F296 p11 (p11.1 13 31 (s0).toNatClampNeg) s0 (-(p11.1 13 34 (s0).toNatClampNeg))
          let p17 : PM := F296 p16 (p16.1 13 32 (s0).toNatClampNeg) s0 (p16.1 13 34 (s0).toNatClampNeg)
          let p18 : PM := pI p17 15 7 (s0).toNatClampNeg (cn 1)
          if (F235 p18 x12) < 0 then (
            let p20 : PM := pI p18 13 10 (x12).toNatClampNeg (p18.1 13 11 (x12).toNatClampNeg)
            kv166 p20 v1 x12 (cn 0))
          else (
            let p19 : PM := pI p18 13 10 (x12).toNatClampNeg (p18.1 13 33 ((irm (F235 p18 x12) (cn 60))).toNatClampNeg)
            kv166 p19 v1 x12 (cn 0)))
        else (
          let p13 : PM := F296 p11 (p11.1 13 31 (s0).toNatClampNeg) s0 (-(p11.1 13 34 (s0).toNatClampNeg))
          let p14 : PM := F296 p13 (p13.1 13 32 (s0).toNatClampNeg) s0 (p13.1 13 34 (s0).toNatClampNeg)
          let p15 : PM := pI p14 15 7 (s0).toNatClampNeg (cn 1)
          kv166 p15 v1 x12 (cn 0)))
      else (
        ((cn 0), p11))))
noncomputable def v12_doBust_16 (p : PM) (v1 : Int32) (s0 : Int32) : Int32 × PM := bv12_doBust_16 v12_isKept v12_latest v12_undoes (v12_doBust_166 FU) p v1 s0
noncomputable def bg12_doBust_16 (F234 : PM → Int32 → Int32) (G234 : PM → Int32 → Prop) (F235 : PM → Int32 → Int32) (G235 : PM → Int32 → Prop) (F296 : PM → Int32 → Int32 → Int32 → PM) (G296 : PM → Int32 → Int32 → Int32 → Prop) (kg166 : PM → Int32 → Int32 → Int32 → Prop) (p : PM) (v1 : Int32) (s0 : Int32) : Prop :=
  (G234 p v1) ∧ (
  if (F234 p v1) = 0 then (
    let p21 : PM := pI p 12 1 0 (cn 1)
    if (p21.1 12 1 0) = 0 then (
      (inb s0 60) ∧ (
      let x22 : Int32 := (p21.1 13 30 (s0).toNatClampNeg)
      (G235 p21 x22) ∧ (
      if (F235 p21 x22) = v1 then (
        (inb s0 60) ∧ (
        (inb s0 60) ∧ (
        (G296 p21 (p21.1 13 31 (s0).toNatClampNeg) s0 (-(p21.1 13 34 (s0).toNatClampNeg))) ∧ (
        let p26 : PM := F296 p21 (p21.1 13 31 (s0).toNatClampNeg) s0 (-(p21.1 13 34 (s0).toNatClampNeg))
        (inb s0 60) ∧ (
        (inb s0 60) ∧ (
        (G296 p26 (p26.1 13 32 (s0).toNatClampNeg) s0 (p26.1 13 34 (s0).toNatClampNeg)) ∧ (
        let p27 : PM := F296 p26 (p26.1 13 32 (s0).toNatClampNeg) s0 (p26.1 13 34 (s0).toNatClampNeg)
        (inb s0 60) ∧ (
        let p28 : PM := pI p27 15 7 (s0).toNatClampNeg (cn 1)
        (G235 p28 x22) ∧ (
        if (F235 p28 x22) < 0 then (
          (inb x22 6) ∧ (
          (inb x22 6) ∧ (
          let p30 : PM := pI p28 13 10 (x22).toNatClampNeg (p28.1 13 11 (x22).toNatClampNeg)
          kg166 p30 v1 x22 (cn 0))))
        else (
          (inb (irm (F235 p28 x22) (cn 60)) 60) ∧ (
          (inb x22 6) ∧ (
          let p29 : PM := pI p28 13 10 (x22).toNatClampNeg (p28.1 13 33 ((irm (F235 p28 x22) (cn 60))).toNatClampNeg)
          kg166 p29 v1 x22 (cn 0)))))))))))))
      else (
        (inb s0 60) ∧ (
        (inb s0 60) ∧ (
        (G296 p21 (p21.1 13 31 (s0).toNatClampNeg) s0 (-(p21.1 13 34 (s0).toNatClampNeg))) ∧ (
        let p23 : PM := F296 p21 (p21.1 13 31 (s0).toNatClampNeg) s0 (-(p21.1 13 34 (s0).toNatClampNeg))
        (inb s0 60) ∧ (
        (inb s0 60) ∧ (
        (G296 p23 (p23.1 13 32 (s0).toNatClampNeg) s0 (p23.1 13 34 (s0).toNatClampNeg)) ∧ (
        let p24 : PM := F296 p23 (p23.1 13 32 (s0).toNatClampNeg) s0 (p23.1 13 34 (s0).toNatClampNeg)
        (inb s0 60) ∧ (
        let p25 : PM := pI p24 15 7 (s0).toNatClampNeg (cn 1)
        kg166 p25 v1 x22 (cn 0))))))))))))
    else (
      True))
  else (
    (inb s0 60) ∧ (
    if (p.1 15 7 (s0).toNatClampNeg) = 0 then (
      let p1 : PM := pI p 12 1 0 (cn 0)
      if (p1.1 12 1 0) = 0 then (
        (inb s0 60) ∧ (
        let x2 : Int32 := (p1.1 13 30 (s0).toNatClampNeg)
        (G235 p1 x2) ∧ (
        if (F235 p1 x2) = v1 then (
          (inb s0 60) ∧ (
          (inb s0 60) ∧ (
          (G296 p1 (p1.1 13 31 (s0).toNatClampNeg) s0 (-(p1.1 13 34 (s0).toNatClampNeg))) ∧ (
          let p6 : PM := F296 p1 (p1.1 13 31 (s0).toNatClampNeg) s0 (-(p1.1 13 34 (s0).toNatClampNeg))
          (inb s0 60) ∧ (
          (inb s0 60) ∧ (
          (G296 p6 (p6.1 13 32 (s0).toNatClampNeg) s0 (p6.1 13 34 (s0).toNatClampNeg)) ∧ (
          let p7 : PM := F296 p6 (p6.1 13 32 (s0).toNatClampNeg) s0 (p6.1 13 34 (s0).toNatClampNeg)
          (inb s0 60) ∧ (
          let p8 : PM := pI p7 15 7 (s0).toNatClampNeg (cn 1)
          (G235 p8 x2) ∧ (
          if (F235 p8 x2) < 0 then (
            (inb x2 6) ∧ (
            (inb x2 6) ∧ (
            let p10 : PM := pI p8 13 10 (x2).toNatClampNeg (p8.1 13 11 (x2).toNatClampNeg)
            kg166 p10 v1 x2 (cn 0))))
          else (
            (inb (irm (F235 p8 x2) (cn 60)) 60) ∧ (
            (inb x2 6) ∧ (
            let p9 : PM := pI p8 13 10 (x2).toNatClampNeg (p8.1 13 33 ((irm (F235 p8 x2) (cn 60))).toNatClampNeg)
            kg166 p9 v1 x2 (cn 0)))))))))))))
        else (
          (inb s0 60) ∧ (
          (inb s0 60) ∧ (
          (G296 p1 (p1.1 13 31 (s0).toNatClampNeg) s0 (-(p1.1 13 34 (s0).toNatClampNeg))) ∧ (
          let p3 : PM := F296 p1 (p1.1 13 31 (s0).toNatClampNeg) s0 (-(p1.1 13 34 (s0).toNatClampNeg))
          (inb s0 60) ∧ (
          (inb s0 60) ∧ (
          (G296 p3 (p3.1 13 32 (s0).toNatClampNeg) s0 (p3.1 13 34 (s0).toNatClampNeg)) ∧ (
          let p4 : PM := F296 p3 (p3.1 13 32 (s0).toNatClampNeg) s0 (p3.1 13 34 (s0).toNatClampNeg)
          (inb s0 60) ∧ (
          let p5 : PM := pI p4 15 7 (s0).toNatClampNeg (cn 1)
          kg166 p5 v1 x2 (cn 0))))))))))))
      else (
        True))
    else (
      let p11 : PM := pI p 12 1 0 (cn 2)
      if (p11.1 12 1 0) = 0 then (
        (inb s0 60) ∧ (
        let x12 : Int32 := (p11.1 13 30 (s0).toNatClampNeg)
        (G235 p11 x12) ∧ (
        if (F235 p11 x12) = v1 then (
          (inb s0 60) ∧ (
          (inb s0 60) ∧ (
          (G296 p11 (p11.1 13 31 (s0).toNatClampNeg) s0 (-(p11.1 13 34 (s0).toNatClampNeg))) ∧ (
          let p16 : PM := F296 p11 (p11.1 13 31 (s0).toNatClampNeg) s0 (-(p11.1 13 34 (s0).toNatClampNeg))
          (inb s0 60) ∧ (
          (inb s0 60) ∧ (
          (G296 p16 (p16.1 13 32 (s0).toNatClampNeg) s0 (p16.1 13 34 (s0).toNatClampNeg)) ∧ (
          let p17 : PM := F296 p16 (p16.1 13 32 (s0).toNatClampNeg) s0 (p16.1 13 34 (s0).toNatClampNeg)
          (inb s0 60) ∧ (
          let p18 : PM := pI p17 15 7 (s0).toNatClampNeg (cn 1)
          (G235 p18 x12) ∧ (
          if (F235 p18 x12) < 0 then (
            (inb x12 6) ∧ (
            (inb x12 6) ∧ (
            let p20 : PM := pI p18 13 10 (x12).toNatClampNeg (p18.1 13 11 (x12).toNatClampNeg)
            kg166 p20 v1 x12 (cn 0))))
          else (
            (inb (irm (F235 p18 x12) (cn 60)) 60) ∧ (
            (inb x12 6) ∧ (
            let p19 : PM := pI p18 13 10 (x12).toNatClampNeg (p18.1 13 33 ((irm (F235 p18 x12) (cn 60))).toNatClampNeg)
            kg166 p19 v1 x12 (cn 0)))))))))))))
        else (
          (inb s0 60) ∧ (
          (inb s0 60) ∧ (
          (G296 p11 (p11.1 13 31 (s0).toNatClampNeg) s0 (-(p11.1 13 34 (s0).toNatClampNeg))) ∧ (
          let p13 : PM := F296 p11 (p11.1 13 31 (s0).toNatClampNeg) s0 (-(p11.1 13 34 (s0).toNatClampNeg))
          (inb s0 60) ∧ (
          (inb s0 60) ∧ (
          (G296 p13 (p13.1 13 32 (s0).toNatClampNeg) s0 (p13.1 13 34 (s0).toNatClampNeg)) ∧ (
          let p14 : PM := F296 p13 (p13.1 13 32 (s0).toNatClampNeg) s0 (p13.1 13 34 (s0).toNatClampNeg)
          (inb s0 60) ∧ (
          let p15 : PM := pI p14 15 7 (s0).toNatClampNeg (cn 1)
          kg166 p15 v1 x12 (cn 0))))))))))))
      else (
        True)))))
