/-! the reference as functions, a ghost beside the class (text of wip/whole/lift.py, chosen by wip/p50/ghost.py) -/
noncomputable def g12_doBust_16 (p : PM) (v1 : Int32) (s0 : Int32) : Prop := bg12_doBust_16 v12_isKept g12_isKept v12_latest g12_latest v12_undoes g12_undoes (g12_doBust_166 FU) p v1 s0
noncomputable def bv12_doBust (F234 : PM → Int32 → Int32) (kv16 : PM → Int32 → Int32 → Int32 × PM) (p : PM) (v1 : Int32) : Int32 × PM :=
  if (F234 p v1) = 0 then (
    kv16 p v1 (cn 0))
  else (
    kv16 p v1 (irm v1 (cn 60)))
noncomputable def v12_doBust (p : PM) (v1 : Int32) : Int32 × PM := bv12_doBust v12_isKept v12_doBust_16 p v1
noncomputable def bg12_doBust (F234 : PM → Int32 → Int32) (G234 : PM → Int32 → Prop) (kg16 : PM → Int32 → Int32 → Prop) (p : PM) (v1 : Int32) : Prop :=
  (G234 p v1) ∧ (
  if (F234 p v1) = 0 then (
    kg16 p v1 (cn 0))
  else (
    kg16 p v1 (irm v1 (cn 60))))
noncomputable def g12_doBust (p : PM) (v1 : Int32) : Prop := bg12_doBust v12_isKept g12_isKept g12_doBust_16 p v1
noncomputable def bv12_doAdjust_16 (F219 : PM → Int32 → Int32 → Int32) (F234 : PM → Int32 → Int32) (F235 : PM → Int32 → Int32) (p : PM) (v1 : Int32) (v2 : Int32) (s0 : Int32) : Int32 × PM :=
  if (F234 p v1) = 0 then (
    let p22 : PM := pI p 12 1 0 (cn 1)
    if (p22.1 12 1 0) = 0 then (
      let x23 : Int32 := (p22.1 13 33 (s0).toNatClampNeg)
      let p24 : PM := pJ p22 14 1 ((p22.1 13 31 (s0).toNatClampNeg)).toNatClampNeg ((p22.2.1 14 1 ((p22.1 13 31 (s0).toNatClampNeg)).toNatClampNeg) - (((p22.1 13 34 (s0).toNatClampNeg)).toInt64 * ((v2 - x23)).toInt64))
      let p25 : PM := pJ p24 14 1 ((p24.1 13 32 (s0).toNatClampNeg)).toNatClampNeg ((p24.2.1 14 1 ((p24.1 13 32 (s0).toNatClampNeg)).toNatClampNeg) + (((p24.1 13 34 (s0).toNatClampNeg)).toInt64 * ((v2 - x23)).toInt64))
      let p26 : PM := pI p25 13 33 (s0).toNatClampNeg v2
      if (F235 p26 (p26.1 13 30 (s0).toNatClampNeg)) = v1 then (
        let p28 : PM := pI p26 13 10 ((p26.1 13 30 (s0).toNatClampNeg)).toNatClampNeg v2
        (x23, p28))
      else (
        let p27 : PM := pI p26 13 10 ((p26.1 13 30 (s0).toNatClampNeg)).toNatClampNeg (p26.1 13 10 ((p26.1 13 30 (s0).toNatClampNeg)).toNatClampNeg)
        (x23, p27)))
    else (
      ((cn 0), p22)))
  else (
    if (F219 p (p.1 13 30 (s0).toNatClampNeg) v2) = 0 then (
      let p15 : PM := pI p 12 1 0 (cn 2)
      if (p15.1 12 1 0) = 0 then (
        let x16 : Int32 := (p15.1 13 33 (s0).toNatClampNeg)
        let p17 : PM := pJ p15 14 1 ((p15.1 13 31 (s0).toNatClampNeg)).toNatClampNeg ((p15.2.1 14 1 ((p15.1 13 31 (s0).toNatClampNeg)).toNatClampNeg) - (((p15.1 13 34 (s0).toNatClampNeg)).toInt64 * ((v2 - x16)).toInt64))
        let p18 : PM := pJ p17 14 1 ((p17.1 13 32 (s0).toNatClampNeg)).toNatClampNeg ((p17.2.1 14 1 ((p17.1 13 32 (s0).toNatClampNeg)).toNatClampNeg) + (((p17.1 13 34 (s0).toNatClampNeg)).toInt64 * ((v2 - x16)).toInt64))
        let p19 : PM := pI p18 13 33 (s0).toNatClampNeg v2
        if (F235 p19 (p19.1 13 30 (s0).toNatClampNeg)) = v1 then (
          let p21 : PM := pI p19 13 10 ((p19.1 13 30 (s0).toNatClampNeg)).toNatClampNeg v2
          (x16, p21))
        else (
          let p20 : PM := pI p19 13 10 ((p19.1 13 30 (s0).toNatClampNeg)).toNatClampNeg (p19.1 13 10 ((p19.1 13 30 (s0).toNatClampNeg)).toNatClampNeg)
          (x16, p20)))
      else (
        ((cn 0), p15)))
    else (
      if (p.1 15 7 (s0).toNatClampNeg) = 0 then (
        let p1 : PM := pI p 12 1 0 (cn 0)
        if (p1.1 12 1 0) = 0 then (
          let x2 : Int32 := (p1.1 13 33 (s0).toNatClampNeg)
          let p3 : PM := pJ p1 14 1 ((p1.1 13 31 (s0).toNatClampNeg)).toNatClampNeg ((p1.2.1 14 1 ((p1.1 13 31 (s0).toNatClampNeg)).toNatClampNeg) - (((p1.1 13 34 (s0).toNatClampNeg)).toInt64 * ((v2 - x2)).toInt64))
          let p4 : PM := pJ p3 14 1 ((p3.1 13 32 (s0).toNatClampNeg)).toNatClampNeg ((p3.2.1 14 1 ((p3.1 13 32 (s0).toNatClampNeg)).toNatClampNeg) + (((p3.1 13 34 (s0).toNatClampNeg)).toInt64 * ((v2 - x2)).toInt64))
          let p5 : PM := pI p4 13 33 (s0).toNatClampNeg v2
          if (F235 p5 (p5.1 13 30 (s0).toNatClampNeg)) = v1 then (
            let p7 : PM := pI p5 13 10 ((p5.1 13 30 (s0).toNatClampNeg)).toNatClampNeg v2
            (x2, p7))
          else (
            let p6 : PM := pI p5 13 10 ((p5.1 13 30 (s0).toNatClampNeg)).toNatClampNeg (p5.1 13 10 ((p5.1 13 30 (s0).toNatClampNeg)).toNatClampNeg)
            (x2, p6)))
        else (
          ((cn 0), p1)))
      else (
        let p8 : PM := pI p 12 1 0 (cn 3)
        if (p8.1 12 1 0) = 0 then (
          let x9 : Int32 := (p8.1 13 33 (s0).toNatClampNeg)
          let p10 : PM := pJ p8 14 1 ((p8.1 13 31 (s0).toNatClampNeg)).toNatClampNeg ((p8.2.1 14 1 ((p8.1 13 31 (s0).toNatClampNeg)).toNatClampNeg) - (((p8.1 13 34 (s0).toNatClampNeg)).toInt64 * ((v2 - x9)).toInt64))
          let p11 : PM := pJ p10 14 1 ((p10.1 13 32 (s0).toNatClampNeg)).toNatClampNeg ((p10.2.1 14 1 ((p10.1 13 32 (s0).toNatClampNeg)).toNatClampNeg) + (((p10.1 13 34 (s0).toNatClampNeg)).toInt64 * ((v2 - x9)).toInt64))
          let p12 : PM := pI p11 13 33 (s0).toNatClampNeg v2
          if (F235 p12 (p12.1 13 30 (s0).toNatClampNeg)) = v1 then (
            let p14 : PM := pI p12 13 10 ((p12.1 13 30 (s0).toNatClampNeg)).toNatClampNeg v2
            (x9, p14))
          else (
            let p13 : PM := pI p12 13 10 ((p12.1 13 30 (s0).toNatClampNeg)).toNatClampNeg (p12.1 13 10 ((p12.1 13 30 (s0).toNatClampNeg)).toNatClampNeg)
            (x9, p13)))
        else (
          ((cn 0), p8)))))
noncomputable def v12_doAdjust_16 (p : PM) (v1 : Int32) (v2 : Int32) (s0 : Int32) : Int32 × PM := bv12_doAdjust_16 v12_isPrice v12_isKept v12_latest p v1 v2 s0
noncomputable def bg12_doAdjust_16 (F219 : PM → Int32 → Int32 → Int32) (G219 : PM → Int32 → Int32 → Prop) (F234 : PM → Int32 → Int32) (G234 : PM → Int32 → Prop) (F235 : PM → Int32 → Int32) (G235 : PM → Int32 → Prop) (p : PM) (v1 : Int32) (v2 : Int32) (s0 : Int32) : Prop :=
  (G234 p v1) ∧ (
  if (F234 p v1) = 0 then (
    let p22 : PM := pI p 12 1 0 (cn 1)
    if (p22.1 12 1 0) = 0 then (
      (inb s0 60) ∧ (
      let x23 : Int32 := (p22.1 13 33 (s0).toNatClampNeg)
      (inb s0 60) ∧ (
      (inb (p22.1 13 31 (s0).toNatClampNeg) 9) ∧ (
      (inb s0 60) ∧ (
      (inb (p22.1 13 31 (s0).toNatClampNeg) 9) ∧ (
      let p24 : PM := pJ p22 14 1 ((p22.1 13 31 (s0).toNatClampNeg)).toNatClampNeg ((p22.2.1 14 1 ((p22.1 13 31 (s0).toNatClampNeg)).toNatClampNeg) - (((p22.1 13 34 (s0).toNatClampNeg)).toInt64 * ((v2 - x23)).toInt64))
      (inb s0 60) ∧ (
      (inb (p24.1 13 32 (s0).toNatClampNeg) 9) ∧ (
      (inb s0 60) ∧ (
      (inb (p24.1 13 32 (s0).toNatClampNeg) 9) ∧ (
      let p25 : PM := pJ p24 14 1 ((p24.1 13 32 (s0).toNatClampNeg)).toNatClampNeg ((p24.2.1 14 1 ((p24.1 13 32 (s0).toNatClampNeg)).toNatClampNeg) + (((p24.1 13 34 (s0).toNatClampNeg)).toInt64 * ((v2 - x23)).toInt64))
      (inb s0 60) ∧ (
      let p26 : PM := pI p25 13 33 (s0).toNatClampNeg v2
      (inb s0 60) ∧ (
      (inb s0 60) ∧ (
      (G235 p26 (p26.1 13 30 (s0).toNatClampNeg)) ∧ (
      if (F235 p26 (p26.1 13 30 (s0).toNatClampNeg)) = v1 then (
        (inb (p26.1 13 30 (s0).toNatClampNeg) 6) ∧ (
        let p28 : PM := pI p26 13 10 ((p26.1 13 30 (s0).toNatClampNeg)).toNatClampNeg v2
        True))
      else (
        (inb s0 60) ∧ (
        (inb (p26.1 13 30 (s0).toNatClampNeg) 6) ∧ (
        (inb (p26.1 13 30 (s0).toNatClampNeg) 6) ∧ (
        let p27 : PM := pI p26 13 10 ((p26.1 13 30 (s0).toNatClampNeg)).toNatClampNeg (p26.1 13 10 ((p26.1 13 30 (s0).toNatClampNeg)).toNatClampNeg)
        True))))))))))))))))))
    else (
      True))
  else (
    (inb s0 60) ∧ (
    (G219 p (p.1 13 30 (s0).toNatClampNeg) v2) ∧ (
    if (F219 p (p.1 13 30 (s0).toNatClampNeg) v2) = 0 then (
      let p15 : PM := pI p 12 1 0 (cn 2)
      if (p15.1 12 1 0) = 0 then (
        (inb s0 60) ∧ (
        let x16 : Int32 := (p15.1 13 33 (s0).toNatClampNeg)
        (inb s0 60) ∧ (
        (inb (p15.1 13 31 (s0).toNatClampNeg) 9) ∧ (
        (inb s0 60) ∧ (
        (inb (p15.1 13 31 (s0).toNatClampNeg) 9) ∧ (
        let p17 : PM := pJ p15 14 1 ((p15.1 13 31 (s0).toNatClampNeg)).toNatClampNeg ((p15.2.1 14 1 ((p15.1 13 31 (s0).toNatClampNeg)).toNatClampNeg) - (((p15.1 13 34 (s0).toNatClampNeg)).toInt64 * ((v2 - x16)).toInt64))
        (inb s0 60) ∧ (
        (inb (p17.1 13 32 (s0).toNatClampNeg) 9) ∧ (
        (inb s0 60) ∧ (
        (inb (p17.1 13 32 (s0).toNatClampNeg) 9) ∧ (
        let p18 : PM := pJ p17 14 1 ((p17.1 13 32 (s0).toNatClampNeg)).toNatClampNeg ((p17.2.1 14 1 ((p17.1 13 32 (s0).toNatClampNeg)).toNatClampNeg) + (((p17.1 13 34 (s0).toNatClampNeg)).toInt64 * ((v2 - x16)).toInt64))
        (inb s0 60) ∧ (
        let p19 : PM := pI p18 13 33 (s0).toNatClampNeg v2
        (inb s0 60) ∧ (
        (inb s0 60) ∧ (
        (G235 p19 (p19.1 13 30 (s0).toNatClampNeg)) ∧ (
        if (F235 p19 (p19.1 13 30 (s0).toNatClampNeg)) = v1 then (
          (inb (p19.1 13 30 (s0).toNatClampNeg) 6) ∧ (
          let p21 : PM := pI p19 13 10 ((p19.1 13 30 (s0).toNatClampNeg)).toNatClampNeg v2
          True))
        else (
          (inb s0 60) ∧ (
          (inb (p19.1 13 30 (s0).toNatClampNeg) 6) ∧ (
          (inb (p19.1 13 30 (s0).toNatClampNeg) 6) ∧ (
          let p20 : PM := pI p19 13 10 ((p19.1 13 30 (s0).toNatClampNeg)).toNatClampNeg (p19.1 13 10 ((p19.1 13 30 (s0).toNatClampNeg)).toNatClampNeg)
          True))))))))))))))))))
      else (
        True))
    else (
      (inb s0 60) ∧ (
      if (p.1 15 7 (s0).toNatClampNeg) = 0 then (
        let p1 : PM := pI p 12 1 0 (cn 0)
        if (p1.1 12 1 0) = 0 then (
          (inb s0 60) ∧ (
          let x2 : Int32 := (p1.1 13 33 (s0).toNatClampNeg)
          (inb s0 60) ∧ (
          (inb (p1.1 13 31 (s0).toNatClampNeg) 9) ∧ (
          (inb s0 60) ∧ (
          (inb (p1.1 13 31 (s0).toNatClampNeg) 9) ∧ (
          let p3 : PM := pJ p1 14 1 ((p1.1 13 31 (s0).toNatClampNeg)).toNatClampNeg ((p1.2.1 14 1 ((p1.1 13 31 (s0).toNatClampNeg)).toNatClampNeg) - (((p1.1 13 34 (s0).toNatClampNeg)).toInt64 * ((v2 - x2)).toInt64))
          (inb s0 60) ∧ (
          (inb (p3.1 13 32 (s0).toNatClampNeg) 9) ∧ (
          (inb s0 60) ∧ (
          (inb (p3.1 13 32 (s0).toNatClampNeg) 9) ∧ (
          let p4 : PM := pJ p3 14 1 ((p3.1 13 32 (s0).toNatClampNeg)).toNatClampNeg ((p3.2.1 14 1 ((p3.1 13 32 (s0).toNatClampNeg)).toNatClampNeg) + (((p3.1 13 34 (s0).toNatClampNeg)).toInt64 * ((v2 - x2)).toInt64))
          (inb s0 60) ∧ (
          let p5 : PM := pI p4 13 33 (s0).toNatClampNeg v2
          (inb s0 60) ∧ (
          (inb s0 60) ∧ (
          (G235 p5 (p5.1 13 30 (s0).toNatClampNeg)) ∧ (
          if (F235 p5 (p5.1 13 30 (s0).toNatClampNeg)) = v1 then (
            (inb (p5.1 13 30 (s0).toNatClampNeg) 6) ∧ (
            let p7 : PM := pI p5 13 10 ((p5.1 13 30 (s0).toNatClampNeg)).toNatClampNeg v2
            True))
          else (
            (inb s0 60) ∧ (
            (inb (p5.1 13 30 (s0).toNatClampNeg) 6) ∧ (
            (inb (p5.1 13 30 (s0).toNatClampNeg) 6) ∧ (
            let p6 : PM := pI p5 13 10 ((p5.1 13 30 (s0).toNatClampNeg)).toNatClampNeg (p5.1 13 10 ((p5.1 13 30 (s0).toNatClampNeg)).toNatClampNeg)
            True))))))))))))))))))
        else (
          True))
      else (
        let p8 : PM := pI p 12 1 0 (cn 3)
        if (p8.1 12 1 0) = 0 then (
          (inb s0 60) ∧ (
          let x9 : Int32 := (p8.1 13 33 (s0).toNatClampNeg)
          (inb s0 60) ∧ (
          (inb (p8.1 13 31 (s0).toNatClampNeg) 9) ∧ (
          (inb s0 60) ∧ (
          (inb (p8.1 13 31 (s0).toNatClampNeg) 9) ∧ (
          let p10 : PM := pJ p8 14 1 ((p8.1 13 31 (s0).toNatClampNeg)).toNatClampNeg ((p8.2.1 14 1 ((p8.1 13 31 (s0).toNatClampNeg)).toNatClampNeg) - (((p8.1 13 34 (s0).toNatClampNeg)).toInt64 * ((v2 - x9)).toInt64))
          (inb s0 60) ∧ (
          (inb (p10.1 13 32 (s0).toNatClampNeg) 9) ∧ (
          (inb s0 60) ∧ (
          (inb (p10.1 13 32 (s0).toNatClampNeg) 9) ∧ (
          let p11 : PM := pJ p10 14 1 ((p10.1 13 32 (s0).toNatClampNeg)).toNatClampNeg ((p10.2.1 14 1 ((p10.1 13 32 (s0).toNatClampNeg)).toNatClampNeg) + (((p10.1 13 34 (s0).toNatClampNeg)).toInt64 * ((v2 - x9)).toInt64))
          (inb s0 60) ∧ (
          let p12 : PM := pI p11 13 33 (s0).toNatClampNeg v2
          (inb s0 60) ∧ (
          (inb s0 60) ∧ (
          (G235 p12 (p12.1 13 30 (s0).toNatClampNeg)) ∧ (
          if (F235 p12 (p12.1 13 30 (s0).toNatClampNeg)) = v1 then (
            (inb (p12.1 13 30 (s0).toNatClampNeg) 6) ∧ (
            let p14 : PM := pI p12 13 10 ((p12.1 13 30 (s0).toNatClampNeg)).toNatClampNeg v2
            True))
          else (
            (inb s0 60) ∧ (
            (inb (p12.1 13 30 (s0).toNatClampNeg) 6) ∧ (
            (inb (p12.1 13 30 (s0).toNatClampNeg) 6) ∧ (
            let p13 : PM := pI p12 13 10 ((p12.1 13 30 (s0).toNatClampNeg)).toNatClampNeg (p12.1 13 10 ((p12.1 13 30 (s0).toNatClampNeg)).toNatClampNeg)
            True))))))))))))))))))
        else (
          True))))))))
noncomputable def g12_doAdjust_16 (p : PM) (v1 : Int32) (v2 : Int32) (s0 : Int32) : Prop := bg12_doAdjust_16 v12_isPrice g12_isPrice v12_isKept g12_isKept v12_latest g12_latest p v1 v2 s0
noncomputable def bv12_doAdjust (F234 : PM → Int32 → Int32) (kv16 : PM → Int32 → Int32 → Int32 → Int32 × PM) (p : PM) (v1 : Int32) (v2 : Int32) : Int32 × PM :=
  if (F234 p v1) = 0 then (
    kv16 p v1 v2 (cn 0))
  else (
    kv16 p v1 v2 (irm v1 (cn 60)))
noncomputable def v12_doAdjust (p : PM) (v1 : Int32) (v2 : Int32) : Int32 × PM := bv12_doAdjust v12_isKept v12_doAdjust_16 p v1 v2
noncomputable def bg12_doAdjust (F234 : PM → Int32 → Int32) (G234 : PM → Int32 → Prop) (kg16 : PM → Int32 → Int32 → Int32 → Prop) (p : PM) (v1 : Int32) (v2 : Int32) : Prop :=
  (G234 p v1) ∧ (
  if (F234 p v1) = 0 then (
    kg16 p v1 v2 (cn 0))
  else (
    kg16 p v1 v2 (irm v1 (cn 60))))
noncomputable def g12_doAdjust (p : PM) (v1 : Int32) (v2 : Int32) : Prop := bg12_doAdjust v12_isKept g12_isKept g12_doAdjust_16 p v1 v2
noncomputable def bv12_doGiveUp_108 (F296 : PM → Int32 → Int32 → Int32 → PM) (p : PM) (v2 : Int32) (v3 : Int32) (v4 : Int32) (s0 : Int32) : Int32 × PM :=
  if v2 = 0 then (
    let x1 : Int32 := (-(p.1 13 34 (v4).toNatClampNeg))
    let p2 : PM := F296 p s0 v4 (-x1)
    let p3 : PM := F296 p2 v3 v4 x1
    if v2 = 0 then (
      let p4 : PM := pI p3 13 31 (v4).toNatClampNeg (p3.1 13 31 (v4).toNatClampNeg)
      if v2 = 0 then (
        let p5 : PM := pI p4 13 32 (v4).toNatClampNeg v3
        (s0, p5))
      else (
        let p6 : PM := pI p4 13 32 (v4).toNatClampNeg (p4.1 13 32 (v4).toNatClampNeg)
        (s0, p6)))
    else (
      let p7 : PM := pI p3 13 31 (v4).toNatClampNeg v3
      if v2 = 0 then (
        let p8 : PM := pI p7 13 32 (v4).toNatClampNeg v3
        (s0, p8))
      else (
        let p9 : PM := pI p7 13 32 (v4).toNatClampNeg (p7.1 13 32 (v4).toNatClampNeg)
        (s0, p9))))
  else (
    let x10 : Int32 := (p.1 13 34 (v4).toNatClampNeg)
    let p11 : PM := F296 p s0 v4 (-x10)
    let p12 : PM := F296 p11 v3 v4 x10
    if v2 = 0 then (
      let p13 : PM := pI p12 13 31 (v4).toNatClampNeg (p12.1 13 31 (v4).toNatClampNeg)
      if v2 = 0 then (
        let p14 : PM := pI p13 13 32 (v4).toNatClampNeg v3
        (s0, p14))
      else (
        let p15 : PM := pI p13 13 32 (v4).toNatClampNeg (p13.1 13 32 (v4).toNatClampNeg)
        (s0, p15)))
    else (
      let p16 : PM := pI p12 13 31 (v4).toNatClampNeg v3
      if v2 = 0 then (
        let p17 : PM := pI p16 13 32 (v4).toNatClampNeg v3
        (s0, p17))
      else (
        let p18 : PM := pI p16 13 32 (v4).toNatClampNeg (p16.1 13 32 (v4).toNatClampNeg)
        (s0, p18))))
noncomputable def v12_doGiveUp_108 (p : PM) (v2 : Int32) (v3 : Int32) (v4 : Int32) (s0 : Int32) : Int32 × PM := bv12_doGiveUp_108 v12_undoes p v2 v3 v4 s0
noncomputable def bg12_doGiveUp_108 (F296 : PM → Int32 → Int32 → Int32 → PM) (G296 : PM → Int32 → Int32 → Int32 → Prop) (p : PM) (v2 : Int32) (v3 : Int32) (v4 : Int32) (s0 : Int32) : Prop :=
  if v2 = 0 then (
    (inb v4 60) ∧ (
    let x1 : Int32 := (-(p.1 13 34 (v4).toNatClampNeg))
    (G296 p s0 v4 (-x1)) ∧ (
    let p2 : PM := F296 p s0 v4 (-x1)
    (G296 p2 v3 v4 x1) ∧ (
    let p3 : PM := F296 p2 v3 v4 x1
    if v2 = 0 then (
      (inb v4 60) ∧ (
      (inb v4 60) ∧ (
      let p4 : PM := pI p3 13 31 (v4).toNatClampNeg (p3.1 13 31 (v4).toNatClampNeg)
      if v2 = 0 then (
        (inb v4 60) ∧ (
        let p5 : PM := pI p4 13 32 (v4).toNatClampNeg v3
        True))
      else (
        (inb v4 60) ∧ (
        (inb v4 60) ∧ (
        let p6 : PM := pI p4 13 32 (v4).toNatClampNeg (p4.1 13 32 (v4).toNatClampNeg)
        True))))))
    else (
      (inb v4 60) ∧ (
      let p7 : PM := pI p3 13 31 (v4).toNatClampNeg v3
      if v2 = 0 then (
        (inb v4 60) ∧ (
        let p8 : PM := pI p7 13 32 (v4).toNatClampNeg v3
        True))
      else (
        (inb v4 60) ∧ (
        (inb v4 60) ∧ (
        let p9 : PM := pI p7 13 32 (v4).toNatClampNeg (p7.1 13 32 (v4).toNatClampNeg)
        True)))))))))
  else (
    (inb v4 60) ∧ (
    let x10 : Int32 := (p.1 13 34 (v4).toNatClampNeg)
    (G296 p s0 v4 (-x10)) ∧ (
    let p11 : PM := F296 p s0 v4 (-x10)
    (G296 p11 v3 v4 x10) ∧ (
    let p12 : PM := F296 p11 v3 v4 x10
    if v2 = 0 then (
      (inb v4 60) ∧ (
      (inb v4 60) ∧ (
      let p13 : PM := pI p12 13 31 (v4).toNatClampNeg (p12.1 13 31 (v4).toNatClampNeg)
      if v2 = 0 then (
        (inb v4 60) ∧ (
        let p14 : PM := pI p13 13 32 (v4).toNatClampNeg v3
        True))
      else (
        (inb v4 60) ∧ (
        (inb v4 60) ∧ (
        let p15 : PM := pI p13 13 32 (v4).toNatClampNeg (p13.1 13 32 (v4).toNatClampNeg)
        True))))))
    else (
      (inb v4 60) ∧ (
      let p16 : PM := pI p12 13 31 (v4).toNatClampNeg v3
      if v2 = 0 then (
        (inb v4 60) ∧ (
        let p17 : PM := pI p16 13 32 (v4).toNatClampNeg v3
        True))
      else (
        (inb v4 60) ∧ (
        (inb v4 60) ∧ (
        let p18 : PM := pI p16 13 32 (v4).toNatClampNeg (p16.1 13 32 (v4).toNatClampNeg)
        True)))))))))
noncomputable def g12_doGiveUp_108 (p : PM) (v2 : Int32) (v3 : Int32) (v4 : Int32) (s0 : Int32) : Prop := bg12_doGiveUp_108 v12_undoes g12_undoes p v2 v3 v4 s0
noncomputable def bv12_doGiveUp_70 (kv108 : PM → Int32 → Int32 → Int32 → Int32 → Int32 × PM) (p : PM) (v2 : Int32) (v3 : Int32) (v4 : Int32) : Int32 × PM :=
  let p1 : PM := pI p 12 1 0 (cn 2)
  if (p1.1 12 1 0) = 0 then (
    if v2 = 0 then (
      kv108 p1 v2 v3 v4 (p1.1 13 32 (v4).toNatClampNeg))
    else (
      kv108 p1 v2 v3 v4 (p1.1 13 31 (v4).toNatClampNeg)))
  else (
    ((cn 0), p1))
noncomputable def v12_doGiveUp_70 (p : PM) (v2 : Int32) (v3 : Int32) (v4 : Int32) : Int32 × PM := bv12_doGiveUp_70 v12_doGiveUp_108 p v2 v3 v4
noncomputable def bg12_doGiveUp_70 (kg108 : PM → Int32 → Int32 → Int32 → Int32 → Prop) (p : PM) (v2 : Int32) (v3 : Int32) (v4 : Int32) : Prop :=
  let p1 : PM := pI p 12 1 0 (cn 2)
  if (p1.1 12 1 0) = 0 then (
    if v2 = 0 then (
      (inb v4 60) ∧ (
      kg108 p1 v2 v3 v4 (p1.1 13 32 (v4).toNatClampNeg)))
    else (
      (inb v4 60) ∧ (
      kg108 p1 v2 v3 v4 (p1.1 13 31 (v4).toNatClampNeg))))
  else (
    True)
noncomputable def g12_doGiveUp_70 (p : PM) (v2 : Int32) (v3 : Int32) (v4 : Int32) : Prop := bg12_doGiveUp_70 g12_doGiveUp_108 p v2 v3 v4
noncomputable def bv12_doGiveUp_16 (F234 : PM → Int32 → Int32) (F280 : PM → Int32 → Int32) (kv70 : PM → Int32 → Int32 → Int32 → Int32 × PM) (kv108 : PM → Int32 → Int32 → Int32 → Int32 → Int32 × PM) (p : PM) (v1 : Int32) (v2 : Int32) (v3 : Int32) (s0 : Int32) : Int32 × PM :=
  if (F234 p v1) = 0 then (
    let p1 : PM := pI p 12 1 0 (cn 1)
    if (p1.1 12 1 0) = 0 then (
      if v2 = 0 then (
        kv108 p1 v2 v3 s0 (p1.1 13 32 (s0).toNatClampNeg))
      else (
        kv108 p1 v2 v3 s0 (p1.1 13 31 (s0).toNatClampNeg)))
    else (
      ((cn 0), p1)))
  else (
    if (F280 p v3) = 0 then (
      let p3 : PM := pI p 12 1 0 (cn 1)
      if (p3.1 12 1 0) = 0 then (
        if v2 = 0 then (
          kv108 p3 v2 v3 s0 (p3.1 13 32 (s0).toNatClampNeg))
        else (
          kv108 p3 v2 v3 s0 (p3.1 13 31 (s0).toNatClampNeg)))
      else (
        ((cn 0), p3)))
    else (
      if (p.1 15 7 (s0).toNatClampNeg) = 0 then (
        if (p.1 13 31 (s0).toNatClampNeg) = v3 then (
          kv70 p v2 v3 s0)
        else (
          if (p.1 13 32 (s0).toNatClampNeg) = v3 then (
            kv70 p v2 v3 s0)
          else (
            let p2 : PM := pI p 12 1 0 (cn 0)
            if (p2.1 12 1 0) = 0 then (
              if v2 = 0 then (
                kv108 p2 v2 v3 s0 (p2.1 13 32 (s0).toNatClampNeg))
              else (
                kv108 p2 v2 v3 s0 (p2.1 13 31 (s0).toNatClampNeg)))
            else (
              ((cn 0), p2)))))
      else (
        kv70 p v2 v3 s0)))
noncomputable def v12_doGiveUp_16 (p : PM) (v1 : Int32) (v2 : Int32) (v3 : Int32) (s0 : Int32) : Int32 × PM := bv12_doGiveUp_16 v12_isKept v12_isAccount v12_doGiveUp_70 v12_doGiveUp_108 p v1 v2 v3 s0
noncomputable def bg12_doGiveUp_16 (F234 : PM → Int32 → Int32) (G234 : PM → Int32 → Prop) (F280 : PM → Int32 → Int32) (G280 : PM → Int32 → Prop) (kg70 : PM → Int32 → Int32 → Int32 → Prop) (kg108 : PM → Int32 → Int32 → Int32 → Int32 → Prop) (p : PM) (v1 : Int32) (v2 : Int32) (v3 : Int32) (s0 : Int32) : Prop :=
  (G234 p v1) ∧ (
  if (F234 p v1) = 0 then (
    let p1 : PM := pI p 12 1 0 (cn 1)
    if (p1.1 12 1 0) = 0 then (
      if v2 = 0 then (
        (inb s0 60) ∧ (
        kg108 p1 v2 v3 s0 (p1.1 13 32 (s0).toNatClampNeg)))
      else (
        (inb s0 60) ∧ (
        kg108 p1 v2 v3 s0 (p1.1 13 31 (s0).toNatClampNeg))))
    else (
      True))
  else (
    (G280 p v3) ∧ (
    if (F280 p v3) = 0 then (
      let p3 : PM := pI p 12 1 0 (cn 1)
      if (p3.1 12 1 0) = 0 then (
        if v2 = 0 then (
          (inb s0 60) ∧ (
          kg108 p3 v2 v3 s0 (p3.1 13 32 (s0).toNatClampNeg)))
        else (
          (inb s0 60) ∧ (
          kg108 p3 v2 v3 s0 (p3.1 13 31 (s0).toNatClampNeg))))
      else (
        True))
    else (
      (inb s0 60) ∧ (
      if (p.1 15 7 (s0).toNatClampNeg) = 0 then (
        (inb s0 60) ∧ (
        if (p.1 13 31 (s0).toNatClampNeg) = v3 then (
          kg70 p v2 v3 s0)
        else (
          (inb s0 60) ∧ (
          if (p.1 13 32 (s0).toNatClampNeg) = v3 then (
            kg70 p v2 v3 s0)
          else (
            let p2 : PM := pI p 12 1 0 (cn 0)
            if (p2.1 12 1 0) = 0 then (
              if v2 = 0 then (
                (inb s0 60) ∧ (
                kg108 p2 v2 v3 s0 (p2.1 13 32 (s0).toNatClampNeg)))
              else (
                (inb s0 60) ∧ (
                kg108 p2 v2 v3 s0 (p2.1 13 31 (s0).toNatClampNeg))))
            else (
              True))))))
      else (
        kg70 p v2 v3 s0))))))
noncomputable def g12_doGiveUp_16 (p : PM) (v1 : Int32) (v2 : Int32) (v3 : Int32) (s0 : Int32) : Prop := bg12_doGiveUp_16 v12_isKept g12_isKept v12_isAccount g12_isAccount g12_doGiveUp_70 g12_doGiveUp_108 p v1 v2 v3 s0
noncomputable def bv12_doGiveUp (F234 : PM → Int32 → Int32) (kv16 : PM → Int32 → Int32 → Int32 → Int32 → Int32 × PM) (p : PM) (v1 : Int32) (v2 : Int32) (v3 : Int32) : Int32 × PM :=
  if (F234 p v1) = 0 then (
    kv16 p v1 v2 v3 (cn 0))
  else (
    kv16 p v1 v2 v3 (irm v1 (cn 60)))
noncomputable def v12_doGiveUp (p : PM) (v1 : Int32) (v2 : Int32) (v3 : Int32) : Int32 × PM := bv12_doGiveUp v12_isKept v12_doGiveUp_16 p v1 v2 v3
noncomputable def bg12_doGiveUp (F234 : PM → Int32 → Int32) (G234 : PM → Int32 → Prop) (kg16 : PM → Int32 → Int32 → Int32 → Int32 → Prop) (p : PM) (v1 : Int32) (v2 : Int32) (v3 : Int32) : Prop :=
  (G234 p v1) ∧ (
  if (F234 p v1) = 0 then (
    kg16 p v1 v2 v3 (cn 0))
  else (
    kg16 p v1 v2 v3 (irm v1 (cn 60))))
noncomputable def g12_doGiveUp (p : PM) (v1 : Int32) (v2 : Int32) (v3 : Int32) : Prop := bg12_doGiveUp v12_isKept g12_isKept g12_doGiveUp_16 p v1 v2 v3
noncomputable def bv12_average_29 (p : PM) (F217 : PM → Int64 → Int64 → Int64) (F234 : PM → Int32 → Int32) (kv29 : Int32 → Int32 → Int32 → Int64 → Int64 → Int32 → Int32) (v1 : Int32) (v2 : Int32) (v3 : Int32) (v4 : Int64) (v6 : Int64) (v8 : Int32) : Int32 :=
  if v8 < (p.1 12 1 48) then (
    if (F234 p v8) = 0 then (
      kv29 v1 v2 v3 v4 v6 (v8 + (cn 1)))
    else (
      if (p.1 15 7 ((irm v8 (cn 60))).toNatClampNeg) = 0 then (
        if (p.1 13 30 ((irm v8 (cn 60))).toNatClampNeg) = v2 then (
          if v3 = 0 then (
            if (p.1 13 32 ((irm v8 (cn 60))).toNatClampNeg) = v1 then (
              let x1 : Int64 := (v4 + (((p.1 13 33 ((irm v8 (cn 60))).toNatClampNeg)).toInt64 * ((p.1 13 34 ((irm v8 (cn 60))).toNatClampNeg)).toInt64))
              let x2 : Int64 := (v6 + ((p.1 13 34 ((irm v8 (cn 60))).toNatClampNeg)).toInt64)
              kv29 v1 v2 v3 x1 x2 (v8 + (cn 1)))
            else (
              kv29 v1 v2 v3 v4 v6 (v8 + (cn 1))))
          else (
            if (p.1 13 31 ((irm v8 (cn 60))).toNatClampNeg) = v1 then (
              let x3 : Int64 := (v4 + (((p.1 13 33 ((irm v8 (cn 60))).toNatClampNeg)).toInt64 * ((p.1 13 34 ((irm v8 (cn 60))).toNatClampNeg)).toInt64))
              let x4 : Int64 := (v6 + ((p.1 13 34 ((irm v8 (cn 60))).toNatClampNeg)).toInt64)
              kv29 v1 v2 v3 x3 x4 (v8 + (cn 1)))
            else (
              kv29 v1 v2 v3 v4 v6 (v8 + (cn 1)))))
        else (
          kv29 v1 v2 v3 v4 v6 (v8 + (cn 1))))
      else (
        kv29 v1 v2 v3 v4 v6 (v8 + (cn 1)))))
  else (
    if (lg_cmp v6 (cl 0)) = 0 then (
      (cn (-100000)))
    else (
      ((F217 p v4 v6)).toInt32))
noncomputable def v12_average_29 (p : PM) (n : Nat) : Int32 → Int32 → Int32 → Int64 → Int64 → Int32 → Int32 := Nat.rec (motive := fun _ => Int32 → Int32 → Int32 → Int64 → Int64 → Int32 → Int32) (fun _ _ _ _ _ _ => 0) (fun _ ih => bv12_average_29 p v12_floor v12_isKept ih) n
theorem ev12_average_29 (p : PM) (n : Nat) (v1 : Int32) (v2 : Int32) (v3 : Int32) (v4 : Int64) (v6 : Int64) (v8 : Int32) : v12_average_29 p (n + 1) v1 v2 v3 v4 v6 v8 = bv12_average_29 p v12_floor v12_isKept (v12_average_29 p n) v1 v2 v3 v4 v6 v8 := rfl
noncomputable def bg12_average_29 (p : PM) (F217 : PM → Int64 → Int64 → Int64) (G217 : PM → Int64 → Int64 → Prop) (F234 : PM → Int32 → Int32) (G234 : PM → Int32 → Prop) (kg29 : Int32 → Int32 → Int32 → Int64 → Int64 → Int32 → Prop) (v1 : Int32) (v2 : Int32) (v3 : Int32) (v4 : Int64) (v6 : Int64) (v8 : Int32) : Prop :=
  if v8 < (p.1 12 1 48) then (
    (G234 p v8) ∧ (
    if (F234 p v8) = 0 then (
      kg29 v1 v2 v3 v4 v6 (v8 + (cn 1)))
    else (
      (inb (irm v8 (cn 60)) 60) ∧ (
      if (p.1 15 7 ((irm v8 (cn 60))).toNatClampNeg) = 0 then (
        (inb (irm v8 (cn 60)) 60) ∧ (
        if (p.1 13 30 ((irm v8 (cn 60))).toNatClampNeg) = v2 then (
          if v3 = 0 then (
            (inb (irm v8 (cn 60)) 60) ∧ (
            if (p.1 13 32 ((irm v8 (cn 60))).toNatClampNeg) = v1 then (
              (inb (irm v8 (cn 60)) 60) ∧ (
              (inb (irm v8 (cn 60)) 60) ∧ (
              let x1 : Int64 := (v4 + (((p.1 13 33 ((irm v8 (cn 60))).toNatClampNeg)).toInt64 * ((p.1 13 34 ((irm v8 (cn 60))).toNatClampNeg)).toInt64))
              (inb (irm v8 (cn 60)) 60) ∧ (
              let x2 : Int64 := (v6 + ((p.1 13 34 ((irm v8 (cn 60))).toNatClampNeg)).toInt64)
              kg29 v1 v2 v3 x1 x2 (v8 + (cn 1))))))
            else (
              kg29 v1 v2 v3 v4 v6 (v8 + (cn 1)))))
          else (
            (inb (irm v8 (cn 60)) 60) ∧ (
            if (p.1 13 31 ((irm v8 (cn 60))).toNatClampNeg) = v1 then (
              (inb (irm v8 (cn 60)) 60) ∧ (
              (inb (irm v8 (cn 60)) 60) ∧ (
              let x3 : Int64 := (v4 + (((p.1 13 33 ((irm v8 (cn 60))).toNatClampNeg)).toInt64 * ((p.1 13 34 ((irm v8 (cn 60))).toNatClampNeg)).toInt64))
              (inb (irm v8 (cn 60)) 60) ∧ (
              let x4 : Int64 := (v6 + ((p.1 13 34 ((irm v8 (cn 60))).toNatClampNeg)).toInt64)
              kg29 v1 v2 v3 x3 x4 (v8 + (cn 1))))))
            else (
              kg29 v1 v2 v3 v4 v6 (v8 + (cn 1))))))
        else (
          kg29 v1 v2 v3 v4 v6 (v8 + (cn 1)))))
      else (
        kg29 v1 v2 v3 v4 v6 (v8 + (cn 1)))))))
  else (
    if (lg_cmp v6 (cl 0)) = 0 then (
      True)
    else (
      (G217 p v4 v6) ∧ (
      True)))
noncomputable def g12_average_29 (p : PM) (n : Nat) : Int32 → Int32 → Int32 → Int64 → Int64 → Int32 → Prop := Nat.rec (motive := fun _ => Int32 → Int32 → Int32 → Int64 → Int64 → Int32 → Prop) (fun _ _ _ _ _ _ => False) (fun _ ih => bg12_average_29 p v12_floor g12_floor v12_isKept g12_isKept ih) n
theorem eg12_average_29 (p : PM) (n : Nat) (v1 : Int32) (v2 : Int32) (v3 : Int32) (v4 : Int64) (v6 : Int64) (v8 : Int32) : g12_average_29 p (n + 1) v1 v2 v3 v4 v6 v8 = bg12_average_29 p v12_floor g12_floor v12_isKept g12_isKept (g12_average_29 p n) v1 v2 v3 v4 v6 v8 := rfl
noncomputable def bv12_average (p : PM) (kv29 : Int32 → Int32 → Int32 → Int64 → Int64 → Int32 → Int32) (v1 : Int32) (v2 : Int32) (v3 : Int32) : Int32 :=
  if ((p.1 12 1 48) - (cn 60)) < 0 then (
    kv29 v1 v2 v3 (cl 0) (cl 0) (cn 0))
  else (
    let x1 : Int32 := ((p.1 12 1 48) - (cn 60))
    kv29 v1 v2 v3 (cl 0) (cl 0) x1)
noncomputable def v12_average (p : PM) (v1 : Int32) (v2 : Int32) (v3 : Int32) : Int32 := bv12_average p (v12_average_29 p FU) v1 v2 v3
noncomputable def bg12_average (p : PM) (kg29 : Int32 → Int32 → Int32 → Int64 → Int64 → Int32 → Prop) (v1 : Int32) (v2 : Int32) (v3 : Int32) : Prop :=
  if ((p.1 12 1 48) - (cn 60)) < 0 then (
    kg29 v1 v2 v3 (cl 0) (cl 0) (cn 0))
  else (
    let x1 : Int32 := ((p.1 12 1 48) - (cn 60))
    kg29 v1 v2 v3 (cl 0) (cl 0) x1)
noncomputable def g12_average (p : PM) (v1 : Int32) (v2 : Int32) (v3 : Int32) : Prop := bg12_average p (g12_average_29 p FU) v1 v2 v3
noncomputable def bv12_doAllot_88 (F232 : PM → Int32 → Int32 → Int32 → Int32 → PM) (p : PM) (v1 : Int32) (v2 : Int32) (v3 : Int32) (v4 : Int32) (s0 : Int32) : Int32 × PM :=
  if (p.1 12 1 0) = 0 then (
    if s0 = (cn (-100000)) then (
      let p3 : PM := pI p 12 1 0 (cn 3)
      if (p3.1 12 1 0) = 0 then (
        let p4 : PM := F232 p3 v1 v3 (-v4) s0
        let p5 : PM := F232 p4 v2 v3 v4 s0
        (s0, p5))
      else (
        ((cn 0), p3)))
    else (
      if 0 < v4 then (
        if (p.1 13 1 ((((cn 4) * v1) + v3)).toNatClampNeg) < v4 then (
          let p13 : PM := pI p 12 1 0 (cn 3)
          if (p13.1 12 1 0) = 0 then (
            let p14 : PM := F232 p13 v1 v3 (-v4) s0
            let p15 : PM := F232 p14 v2 v3 v4 s0
            (s0, p15))
          else (
            ((cn 0), p13)))
        else (
          if (p.1 12 1 0) = 0 then (
            let p11 : PM := F232 p v1 v3 (-v4) s0
            let p12 : PM := F232 p11 v2 v3 v4 s0
            (s0, p12))
          else (
            ((cn 0), p))))
      else (
        if v4 < (p.1 13 1 ((((cn 4) * v1) + v3)).toNatClampNeg) then (
          let p8 : PM := pI p 12 1 0 (cn 3)
          if (p8.1 12 1 0) = 0 then (
            let p9 : PM := F232 p8 v1 v3 (-v4) s0
            let p10 : PM := F232 p9 v2 v3 v4 s0
            (s0, p10))
          else (
            ((cn 0), p8)))
        else (
          if (p.1 12 1 0) = 0 then (
            let p6 : PM := F232 p v1 v3 (-v4) s0
            let p7 : PM := F232 p6 v2 v3 v4 s0
            (s0, p7))
          else (
            ((cn 0), p))))))
  else (
    if (p.1 12 1 0) = 0 then (
      let p1 : PM := F232 p v1 v3 (-v4) s0
      let p2 : PM := F232 p1 v2 v3 v4 s0
      (s0, p2))
    else (
      ((cn 0), p)))
noncomputable def v12_doAllot_88 (p : PM) (v1 : Int32) (v2 : Int32) (v3 : Int32) (v4 : Int32) (s0 : Int32) : Int32 × PM := bv12_doAllot_88 v12_holds p v1 v2 v3 v4 s0
noncomputable def bg12_doAllot_88 (F232 : PM → Int32 → Int32 → Int32 → Int32 → PM) (G232 : PM → Int32 → Int32 → Int32 → Int32 → Prop) (p : PM) (v1 : Int32) (v2 : Int32) (v3 : Int32) (v4 : Int32) (s0 : Int32) : Prop :=
  if (p.1 12 1 0) = 0 then (
    if s0 = (cn (-100000)) then (
      let p3 : PM := pI p 12 1 0 (cn 3)
      if (p3.1 12 1 0) = 0 then (
        (G232 p3 v1 v3 (-v4) s0) ∧ (
        let p4 : PM := F232 p3 v1 v3 (-v4) s0
        (G232 p4 v2 v3 v4 s0) ∧ (
        let p5 : PM := F232 p4 v2 v3 v4 s0
        True)))
      else (
        True))
    else (
      if 0 < v4 then (
        (inb (((cn 4) * v1) + v3) 36) ∧ (
        if (p.1 13 1 ((((cn 4) * v1) + v3)).toNatClampNeg) < v4 then (
          let p13 : PM := pI p 12 1 0 (cn 3)
          if (p13.1 12 1 0) = 0 then (
            (G232 p13 v1 v3 (-v4) s0) ∧ (
            let p14 : PM := F232 p13 v1 v3 (-v4) s0
            (G232 p14 v2 v3 v4 s0) ∧ (
            let p15 : PM := F232 p14 v2 v3 v4 s0
            True)))
          else (
            True))
        else (
          if (p.1 12 1 0) = 0 then (
            (G232 p v1 v3 (-v4) s0) ∧ (
            let p11 : PM := F232 p v1 v3 (-v4) s0
            (G232 p11 v2 v3 v4 s0) ∧ (
            let p12 : PM := F232 p11 v2 v3 v4 s0
            True)))
          else (
            True))))
      else (
        (inb (((cn 4) * v1) + v3) 36) ∧ (
        if v4 < (p.1 13 1 ((((cn 4) * v1) + v3)).toNatClampNeg) then (
          let p8 : PM := pI p 12 1 0 (cn 3)
          if (p8.1 12 1 0) = 0 then (
            (G232 p8 v1 v3 (-v4) s0) ∧ (
            let p9 : PM := F232 p8 v1 v3 (-v4) s0
            (G232 p9 v2 v3 v4 s0) ∧ (
            let p10 : PM := F232 p9 v2 v3 v4 s0
            True)))
          else (
            True))
        else (
          if (p.1 12 1 0) = 0 then (
            (G232 p v1 v3 (-v4) s0) ∧ (
            let p6 : PM := F232 p v1 v3 (-v4) s0
            (G232 p6 v2 v3 v4 s0) ∧ (
            let p7 : PM := F232 p6 v2 v3 v4 s0
            True)))
          else (
            True))))))
  else (
    if (p.1 12 1 0) = 0 then (
      (G232 p v1 v3 (-v4) s0) ∧ (
      let p1 : PM := F232 p v1 v3 (-v4) s0
      (G232 p1 v2 v3 v4 s0) ∧ (
      let p2 : PM := F232 p1 v2 v3 v4 s0
      True)))
    else (
      True))
noncomputable def g12_doAllot_88 (p : PM) (v1 : Int32) (v2 : Int32) (v3 : Int32) (v4 : Int32) (s0 : Int32) : Prop := bg12_doAllot_88 v12_holds g12_holds p v1 v2 v3 v4 s0
noncomputable def bv12_doAllot_24 (F300 : PM → Int32 → Int32 → Int32 → Int32) (kv88 : PM → Int32 → Int32 → Int32 → Int32 → Int32 → Int32 × PM) (p : PM) (v1 : Int32) (v2 : Int32) (v3 : Int32) (v4 : Int32) : Int32 × PM :=
  let p1 : PM := pI p 12 1 0 (cn 1)
  if (p1.1 12 1 0) = 0 then (
    if 0 < v4 then (
      kv88 p1 v1 v2 v3 v4 (F300 p1 v1 v3 (cn 1)))
    else (
      kv88 p1 v1 v2 v3 v4 (F300 p1 v1 v3 (cn 0))))
  else (
    kv88 p1 v1 v2 v3 v4 (cn (-100000)))
noncomputable def v12_doAllot_24 (p : PM) (v1 : Int32) (v2 : Int32) (v3 : Int32) (v4 : Int32) : Int32 × PM := bv12_doAllot_24 v12_average v12_doAllot_88 p v1 v2 v3 v4
noncomputable def bg12_doAllot_24 (F300 : PM → Int32 → Int32 → Int32 → Int32) (G300 : PM → Int32 → Int32 → Int32 → Prop) (kg88 : PM → Int32 → Int32 → Int32 → Int32 → Int32 → Prop) (p : PM) (v1 : Int32) (v2 : Int32) (v3 : Int32) (v4 : Int32) : Prop :=
  let p1 : PM := pI p 12 1 0 (cn 1)
  if (p1.1 12 1 0) = 0 then (
    if 0 < v4 then (
      (G300 p1 v1 v3 (cn 1)) ∧ (
      kg88 p1 v1 v2 v3 v4 (F300 p1 v1 v3 (cn 1))))
    else (
      (G300 p1 v1 v3 (cn 0)) ∧ (
      kg88 p1 v1 v2 v3 v4 (F300 p1 v1 v3 (cn 0)))))
  else (
    kg88 p1 v1 v2 v3 v4 (cn (-100000)))
noncomputable def g12_doAllot_24 (p : PM) (v1 : Int32) (v2 : Int32) (v3 : Int32) (v4 : Int32) : Prop := bg12_doAllot_24 v12_average g12_average g12_doAllot_88 p v1 v2 v3 v4
noncomputable def bv12_doAllot_52 (F300 : PM → Int32 → Int32 → Int32 → Int32) (kv88 : PM → Int32 → Int32 → Int32 → Int32 → Int32 → Int32 × PM) (p : PM) (v1 : Int32) (v2 : Int32) (v3 : Int32) (v4 : Int32) : Int32 × PM :=
  let p1 : PM := pI p 12 1 0 (cn 2)
  if (p1.1 12 1 0) = 0 then (
    if 0 < v4 then (
      kv88 p1 v1 v2 v3 v4 (F300 p1 v1 v3 (cn 1)))
    else (
      kv88 p1 v1 v2 v3 v4 (F300 p1 v1 v3 (cn 0))))
  else (
    kv88 p1 v1 v2 v3 v4 (cn (-100000)))
noncomputable def v12_doAllot_52 (p : PM) (v1 : Int32) (v2 : Int32) (v3 : Int32) (v4 : Int32) : Int32 × PM := bv12_doAllot_52 v12_average v12_doAllot_88 p v1 v2 v3 v4
noncomputable def bg12_doAllot_52 (F300 : PM → Int32 → Int32 → Int32 → Int32) (G300 : PM → Int32 → Int32 → Int32 → Prop) (kg88 : PM → Int32 → Int32 → Int32 → Int32 → Int32 → Prop) (p : PM) (v1 : Int32) (v2 : Int32) (v3 : Int32) (v4 : Int32) : Prop :=
  let p1 : PM := pI p 12 1 0 (cn 2)
  if (p1.1 12 1 0) = 0 then (
    if 0 < v4 then (
      (G300 p1 v1 v3 (cn 1)) ∧ (
      kg88 p1 v1 v2 v3 v4 (F300 p1 v1 v3 (cn 1))))
    else (
      (G300 p1 v1 v3 (cn 0)) ∧ (
      kg88 p1 v1 v2 v3 v4 (F300 p1 v1 v3 (cn 0)))))
  else (
    kg88 p1 v1 v2 v3 v4 (cn (-100000)))
noncomputable def g12_doAllot_52 (p : PM) (v1 : Int32) (v2 : Int32) (v3 : Int32) (v4 : Int32) : Prop := bg12_doAllot_52 v12_average g12_average g12_doAllot_88 p v1 v2 v3 v4
noncomputable def bv12_doAllot (F215 : PM → Int32 → Int32 → Int32 → Int32) (F280 : PM → Int32 → Int32) (F300 : PM → Int32 → Int32 → Int32 → Int32) (kv24 : PM → Int32 → Int32 → Int32 → Int32 → Int32 × PM) (kv52 : PM → Int32 → Int32 → Int32 → Int32 → Int32 × PM) (kv88 : PM → Int32 → Int32 → Int32 → Int32 → Int32 → Int32 × PM) (p : PM) (v1 : Int32) (v2 : Int32) (v3 : Int32) (v4 : Int32) : Int32 × PM :=
  if (F280 p v1) = 0 then (
    kv24 p v1 v2 v3 v4)
  else (
    if (F280 p v2) = 0 then (
      kv24 p v1 v2 v3 v4)
    else (
      if (F215 p v3 (cn 0) (cn 3)) = 0 then (
        kv24 p v1 v2 v3 v4)
      else (
        if (F215 p v4 (cn (-999)) (cn 999)) = 0 then (
          kv52 p v1 v2 v3 v4)
        else (
          if v4 = 0 then (
            kv52 p v1 v2 v3 v4)
          else (
            if v1 = v2 then (
              kv52 p v1 v2 v3 v4)
            else (
              let p1 : PM := pI p 12 1 0 (cn 0)
              if (p1.1 12 1 0) = 0 then (
                if 0 < v4 then (
                  kv88 p1 v1 v2 v3 v4 (F300 p1 v1 v3 (cn 1)))
                else (
                  kv88 p1 v1 v2 v3 v4 (F300 p1 v1 v3 (cn 0))))
              else (
                kv88 p1 v1 v2 v3 v4 (cn (-100000)))))))))
noncomputable def v12_doAllot (p : PM) (v1 : Int32) (v2 : Int32) (v3 : Int32) (v4 : Int32) : Int32 × PM := bv12_doAllot v12_in v12_isAccount v12_average v12_doAllot_24 v12_doAllot_52 v12_doAllot_88 p v1 v2 v3 v4
noncomputable def bg12_doAllot (F215 : PM → Int32 → Int32 → Int32 → Int32) (G215 : PM → Int32 → Int32 → Int32 → Prop) (F280 : PM → Int32 → Int32) (G280 : PM → Int32 → Prop) (F300 : PM → Int32 → Int32 → Int32 → Int32) (G300 : PM → Int32 → Int32 → Int32 → Prop) (kg24 : PM → Int32 → Int32 → Int32 → Int32 → Prop) (kg52 : PM → Int32 → Int32 → Int32 → Int32 → Prop) (kg88 : PM → Int32 → Int32 → Int32 → Int32 → Int32 → Prop) (p : PM) (v1 : Int32) (v2 : Int32) (v3 : Int32) (v4 : Int32) : Prop :=
  (G280 p v1) ∧ (
  if (F280 p v1) = 0 then (
    kg24 p v1 v2 v3 v4)
  else (
    (G280 p v2) ∧ (
    if (F280 p v2) = 0 then (
      kg24 p v1 v2 v3 v4)
    else (
      (G215 p v3 (cn 0) (cn 3)) ∧ (
      if (F215 p v3 (cn 0) (cn 3)) = 0 then (
        kg24 p v1 v2 v3 v4)
      else (
        (G215 p v4 (cn (-999)) (cn 999)) ∧ (
        if (F215 p v4 (cn (-999)) (cn 999)) = 0 then (
          kg52 p v1 v2 v3 v4)
        else (
          if v4 = 0 then (
            kg52 p v1 v2 v3 v4)
          else (
            if v1 = v2 then (
              kg52 p v1 v2 v3 v4)
            else (
              let p1 : PM := pI p 12 1 0 (cn 0)
              if (p1.1 12 1 0) = 0 then (
                if 0 < v4 then (
                  (G300 p1 v1 v3 (cn 1)) ∧ (
                  kg88 p1 v1 v2 v3 v4 (F300 p1 v1 v3 (cn 1))))
                else (
                  (G300 p1 v1 v3 (cn 0)) ∧ (
                  kg88 p1 v1 v2 v3 v4 (F300 p1 v1 v3 (cn 0)))))
              else (
                kg88 p1 v1 v2 v3 v4 (cn (-100000)))))))))))))
noncomputable def g12_doAllot (p : PM) (v1 : Int32) (v2 : Int32) (v3 : Int32) (v4 : Int32) : Prop := bg12_doAllot v12_in g12_in v12_isAccount g12_isAccount v12_average g12_average g12_doAllot_24 g12_doAllot_52 g12_doAllot_88 p v1 v2 v3 v4
noncomputable def bv12_drawn_54 (p : PM) (kv54 : Int32 → Int32 → Int32) (v3 : Int32) (v4 : Int32) : Int32 :=
  if v4 < (cn 9) then (
    if (p.1 13 1 ((((cn 4) * v4) + (cn 3))).toNatClampNeg) < 0 then (
      let x1 : Int32 := (-(p.1 13 1 ((((cn 4) * v4) + (cn 3))).toNatClampNeg))
      if v3 < x1 then (
        v4)
      else (
        kv54 (v3 - x1) (v4 + (cn 1))))
    else (
      if v3 < (cn 0) then (
        v4)
      else (
        kv54 (v3 - (cn 0)) (v4 + (cn 1)))))
  else (
    (cn (-1)))
noncomputable def v12_drawn_54 (p : PM) (n : Nat) : Int32 → Int32 → Int32 := Nat.rec (motive := fun _ => Int32 → Int32 → Int32) (fun _ _ => 0) (fun _ ih => bv12_drawn_54 p ih) n
theorem ev12_drawn_54 (p : PM) (n : Nat) (v3 : Int32) (v4 : Int32) : v12_drawn_54 p (n + 1) v3 v4 = bv12_drawn_54 p (v12_drawn_54 p n) v3 v4 := rfl
noncomputable def bg12_drawn_54 (p : PM) (kg54 : Int32 → Int32 → Prop) (v3 : Int32) (v4 : Int32) : Prop :=
  if v4 < (cn 9) then (
    (inb (((cn 4) * v4) + (cn 3)) 36) ∧ (
    if (p.1 13 1 ((((cn 4) * v4) + (cn 3))).toNatClampNeg) < 0 then (
      (inb (((cn 4) * v4) + (cn 3)) 36) ∧ (
      let x1 : Int32 := (-(p.1 13 1 ((((cn 4) * v4) + (cn 3))).toNatClampNeg))
      if v3 < x1 then (
        True)
      else (
        kg54 (v3 - x1) (v4 + (cn 1)))))
    else (
      if v3 < (cn 0) then (
        True)
      else (
        kg54 (v3 - (cn 0)) (v4 + (cn 1))))))
  else (
    True)
noncomputable def g12_drawn_54 (p : PM) (n : Nat) : Int32 → Int32 → Prop := Nat.rec (motive := fun _ => Int32 → Int32 → Prop) (fun _ _ => False) (fun _ ih => bg12_drawn_54 p ih) n
theorem eg12_drawn_54 (p : PM) (n : Nat) (v3 : Int32) (v4 : Int32) : g12_drawn_54 p (n + 1) v3 v4 = bg12_drawn_54 p (g12_drawn_54 p n) v3 v4 := rfl
noncomputable def bv12_drawn_4 (p : PM) (kv4 : Int32 → Int32 → Int32 → Int32) (kv54 : Int32 → Int32 → Int32) (v1 : Int32) (v2 : Int32) (v3 : Int32) : Int32 :=
  if v3 < (cn 9) then (
    if (p.1 13 1 ((((cn 4) * v3) + (cn 3))).toNatClampNeg) < 0 then (
      let x1 : Int32 := (v2 + (-(p.1 13 1 ((((cn 4) * v3) + (cn 3))).toNatClampNeg)))
      kv4 v1 x1 (v3 + (cn 1)))
    else (
      kv4 v1 (v2 + (cn 0)) (v3 + (cn 1))))
  else (
    kv54 (irm v1 v2) (cn 0))
noncomputable def v12_drawn_4 (p : PM) (n : Nat) : Int32 → Int32 → Int32 → Int32 := Nat.rec (motive := fun _ => Int32 → Int32 → Int32 → Int32) (fun _ _ _ => 0) (fun _ ih => bv12_drawn_4 p ih (v12_drawn_54 p FU)) n
theorem ev12_drawn_4 (p : PM) (n : Nat) (v1 : Int32) (v2 : Int32) (v3 : Int32) : v12_drawn_4 p (n + 1) v1 v2 v3 = bv12_drawn_4 p (v12_drawn_4 p n) (v12_drawn_54 p FU) v1 v2 v3 := rfl
noncomputable def bg12_drawn_4 (p : PM) (kg4 : Int32 → Int32 → Int32 → Prop) (kg54 : Int32 → Int32 → Prop) (v1 : Int32) (v2 : Int32) (v3 : Int32) : Prop :=
  if v3 < (cn 9) then (
    (inb (((cn 4) * v3) + (cn 3)) 36) ∧ (
    if (p.1 13 1 ((((cn 4) * v3) + (cn 3))).toNatClampNeg) < 0 then (
      (inb (((cn 4) * v3) + (cn 3)) 36) ∧ (
      let x1 : Int32 := (v2 + (-(p.1 13 1 ((((cn 4) * v3) + (cn 3))).toNatClampNeg)))
      kg4 v1 x1 (v3 + (cn 1))))
    else (
      kg4 v1 (v2 + (cn 0)) (v3 + (cn 1)))))
  else (
    (¬ v2 = 0) ∧ (
    kg54 (irm v1 v2) (cn 0)))
noncomputable def g12_drawn_4 (p : PM) (n : Nat) : Int32 → Int32 → Int32 → Prop := Nat.rec (motive := fun _ => Int32 → Int32 → Int32 → Prop) (fun _ _ _ => False) (fun _ ih => bg12_drawn_4 p ih (g12_drawn_54 p FU)) n
theorem eg12_drawn_4 (p : PM) (n : Nat) (v1 : Int32) (v2 : Int32) (v3 : Int32) : g12_drawn_4 p (n + 1) v1 v2 v3 = bg12_drawn_4 p (g12_drawn_4 p n) (g12_drawn_54 p FU) v1 v2 v3 := rfl
noncomputable def bv12_drawn (p : PM) (kv4 : Int32 → Int32 → Int32 → Int32) (v1 : Int32) : Int32 :=
  kv4 v1 (cn 0) (cn 0)
noncomputable def v12_drawn (p : PM) (v1 : Int32) : Int32 := bv12_drawn p (v12_drawn_4 p FU) v1
noncomputable def bg12_drawn (p : PM) (kg4 : Int32 → Int32 → Int32 → Prop) (v1 : Int32) : Prop :=
  kg4 v1 (cn 0) (cn 0)
noncomputable def g12_drawn (p : PM) (v1 : Int32) : Prop := bg12_drawn p (g12_drawn_4 p FU) v1
noncomputable def bv12_doExercise_117 (F232 : PM → Int32 → Int32 → Int32 → Int32 → PM) (F303 : PM → Int32 → Int32) (kv117 : PM → Int32 → Int32 → Int32 → Int32 → Int32 × PM) (p : PM) (v2 : Int32) (v4 : Int32) (v5 : Int32) (v6 : Int32) : Int32 × PM :=
  if v6 < v2 then (
    let x1 : Int32 := (irm (((cn 421) * v4) + (cn 1663)) (cn 7875))
    let p2 : PM := pI p 13 1 ((((cn 4) * (F303 p x1)) + (cn 3))).toNatClampNeg ((p.1 13 1 ((((cn 4) * (F303 p x1)) + (cn 3))).toNatClampNeg) + (cn 1))
    let p3 : PM := F232 p2 (F303 p x1) (cn 0) (cn (-1)) (cn 100)
    kv117 p3 v2 x1 (F303 p x1) (v6 + (cn 1)))
  else (
    (v5, p))
noncomputable def v12_doExercise_117 (n : Nat) : PM → Int32 → Int32 → Int32 → Int32 → Int32 × PM := Nat.rec (motive := fun _ => PM → Int32 → Int32 → Int32 → Int32 → Int32 × PM) (fun p _ _ _ _ => (0, p)) (fun _ ih => bv12_doExercise_117 v12_holds v12_drawn ih) n
theorem ev12_doExercise_117 (n : Nat) (p : PM) (v2 : Int32) (v4 : Int32) (v5 : Int32) (v6 : Int32) : v12_doExercise_117 (n + 1) p v2 v4 v5 v6 = bv12_doExercise_117 v12_holds v12_drawn (v12_doExercise_117 n) p v2 v4 v5 v6 := rfl
noncomputable def bg12_doExercise_117 (F232 : PM → Int32 → Int32 → Int32 → Int32 → PM) (G232 : PM → Int32 → Int32 → Int32 → Int32 → Prop) (F303 : PM → Int32 → Int32) (G303 : PM → Int32 → Prop) (kg117 : PM → Int32 → Int32 → Int32 → Int32 → Prop) (p : PM) (v2 : Int32) (v4 : Int32) (v5 : Int32) (v6 : Int32) : Prop :=
  if v6 < v2 then (
    let x1 : Int32 := (irm (((cn 421) * v4) + (cn 1663)) (cn 7875))
    (G303 p x1) ∧ (
    (inb (((cn 4) * (F303 p x1)) + (cn 3)) 36) ∧ (
    (inb (((cn 4) * (F303 p x1)) + (cn 3)) 36) ∧ (
    let p2 : PM := pI p 13 1 ((((cn 4) * (F303 p x1)) + (cn 3))).toNatClampNeg ((p.1 13 1 ((((cn 4) * (F303 p x1)) + (cn 3))).toNatClampNeg) + (cn 1))
    (G232 p2 (F303 p x1) (cn 0) (cn (-1)) (cn 100)) ∧ (
    let p3 : PM := F232 p2 (F303 p x1) (cn 0) (cn (-1)) (cn 100)
    kg117 p3 v2 x1 (F303 p x1) (v6 + (cn 1)))))))
  else (
    True)
noncomputable def g12_doExercise_117 (n : Nat) : PM → Int32 → Int32 → Int32 → Int32 → Prop := Nat.rec (motive := fun _ => PM → Int32 → Int32 → Int32 → Int32 → Prop) (fun _ _ _ _ _ => False) (fun _ ih => bg12_doExercise_117 v12_holds g12_holds v12_drawn g12_drawn ih) n
theorem eg12_doExercise_117 (n : Nat) (p : PM) (v2 : Int32) (v4 : Int32) (v5 : Int32) (v6 : Int32) : g12_doExercise_117 (n + 1) p v2 v4 v5 v6 = bg12_doExercise_117 v12_holds g12_holds v12_drawn g12_drawn (g12_doExercise_117 n) p v2 v4 v5 v6 := rfl
noncomputable def bv12_doExercise (F215 : PM → Int32 → Int32 → Int32 → Int32) (F232 : PM → Int32 → Int32 → Int32 → Int32 → PM) (kv117 : PM → Int32 → Int32 → Int32 → Int32 → Int32 × PM) (p : PM) (v1 : Int32) (v2 : Int32) (v3 : Int32) : Int32 × PM :=
  if (F215 p v1 (cn 0) (cn 8)) = 0 then (
    let p19 : PM := pI p 12 1 0 (cn 1)
    if (p19.1 12 1 0) = 0 then (
      let p20 : PM := pI p19 13 1 ((((cn 4) * v1) + (cn 3))).toNatClampNeg ((p19.1 13 1 ((((cn 4) * v1) + (cn 3))).toNatClampNeg) - v2)
      let p21 : PM := F232 p20 v1 (cn 0) v2 (cn 100)
      kv117 p21 v2 v3 (cn 0) (cn 0))
    else (
      ((cn 0), p19)))
  else (
    if (F215 p v2 (cn 1) (cn 99)) = 0 then (
      let p1 : PM := pI p 12 1 0 (cn 2)
      if (p1.1 12 1 0) = 0 then (
        let p2 : PM := pI p1 13 1 ((((cn 4) * v1) + (cn 3))).toNatClampNeg ((p1.1 13 1 ((((cn 4) * v1) + (cn 3))).toNatClampNeg) - v2)
        let p3 : PM := F232 p2 v1 (cn 0) v2 (cn 100)
        kv117 p3 v2 v3 (cn 0) (cn 0))
      else (
        ((cn 0), p1)))
    else (
      if (F215 p v3 (cn 0) (cn 7874)) = 0 then (
        let p16 : PM := pI p 12 1 0 (cn 2)
        if (p16.1 12 1 0) = 0 then (
          let p17 : PM := pI p16 13 1 ((((cn 4) * v1) + (cn 3))).toNatClampNeg ((p16.1 13 1 ((((cn 4) * v1) + (cn 3))).toNatClampNeg) - v2)
          let p18 : PM := F232 p17 v1 (cn 0) v2 (cn 100)
          kv117 p18 v2 v3 (cn 0) (cn 0))
        else (
          ((cn 0), p16)))
      else (
        if (F215 p v1 (cn 0) (cn 8)) = 0 then (
          if (p.1 13 1 ((((cn 4) * (cn 0)) + (cn 3))).toNatClampNeg) < v2 then (
            let p7 : PM := pI p 12 1 0 (cn 3)
            if (p7.1 12 1 0) = 0 then (
              let p8 : PM := pI p7 13 1 ((((cn 4) * v1) + (cn 3))).toNatClampNeg ((p7.1 13 1 ((((cn 4) * v1) + (cn 3))).toNatClampNeg) - v2)
              let p9 : PM := F232 p8 v1 (cn 0) v2 (cn 100)
              kv117 p9 v2 v3 (cn 0) (cn 0))
            else (
              ((cn 0), p7)))
          else (
            let p4 : PM := pI p 12 1 0 (cn 0)
            if (p4.1 12 1 0) = 0 then (
              let p5 : PM := pI p4 13 1 ((((cn 4) * v1) + (cn 3))).toNatClampNeg ((p4.1 13 1 ((((cn 4) * v1) + (cn 3))).toNatClampNeg) - v2)
              let p6 : PM := F232 p5 v1 (cn 0) v2 (cn 100)
              kv117 p6 v2 v3 (cn 0) (cn 0))
            else (
              ((cn 0), p4))))
        else (
          if (p.1 13 1 ((((cn 4) * v1) + (cn 3))).toNatClampNeg) < v2 then (
            let p13 : PM := pI p 12 1 0 (cn 3)
            if (p13.1 12 1 0) = 0 then (
              let p14 : PM := pI p13 13 1 ((((cn 4) * v1) + (cn 3))).toNatClampNeg ((p13.1 13 1 ((((cn 4) * v1) + (cn 3))).toNatClampNeg) - v2)
              let p15 : PM := F232 p14 v1 (cn 0) v2 (cn 100)
              kv117 p15 v2 v3 (cn 0) (cn 0))
            else (
              ((cn 0), p13)))
          else (
            let p10 : PM := pI p 12 1 0 (cn 0)
            if (p10.1 12 1 0) = 0 then (
              let p11 : PM := pI p10 13 1 ((((cn 4) * v1) + (cn 3))).toNatClampNeg ((p10.1 13 1 ((((cn 4) * v1) + (cn 3))).toNatClampNeg) - v2)
              let p12 : PM := F232 p11 v1 (cn 0) v2 (cn 100)
              kv117 p12 v2 v3 (cn 0) (cn 0))
            else (
              ((cn 0), p10)))))))
