/-! the reference as functions, a ghost beside the class (text of wip/whole/lift.py, chosen by wip/p50/ghost.py) -/
noncomputable def g12_doLimit_121 (p : PM) (v1 : Int32) (v2 : Int32) (v3 : Int32) (v4 : Int32) (v5 : Int32) (v6 : Int32) : Prop := bg12_doLimit_121 v12_isOpen g12_isOpen v12_newOrder g12_newOrder v12_enters g12_enters v12_isEnough g12_isEnough p v1 v2 v3 v4 v5 v6
noncomputable def bv12_doLimit_75 (F218 : PM → Int32 → Int32) (F282 : PM → Int32 → Int32 → Int32 → Int32) (kv121 : PM → Int32 → Int32 → Int32 → Int32 → Int32 → Int32 → Int32 × PM) (p : PM) (v1 : Int32) (v2 : Int32) (v3 : Int32) (v4 : Int32) (v5 : Int32) (v6 : Int32) (s0 : Int32) : Int32 × PM :=
  let p1 : PM := pI p 12 1 0 s0
  if (p1.1 12 1 0) = 0 then (
    if (F282 p1 v1 v2 v4) = 0 then (
      if (F218 p1 v2) = 0 then (
        if v6 = (cn (-100000)) then (
          let p3 : PM := pI p1 12 1 0 (cn 3)
          kv121 p3 v1 v2 v3 v4 v5 v6)
        else (
          if 0 < v5 then (
            let p4 : PM := pI p1 12 1 0 (cn 3)
            kv121 p4 v1 v2 v3 v4 v5 v6)
          else (
            kv121 p1 v1 v2 v3 v4 v5 v6)))
      else (
        kv121 p1 v1 v2 v3 v4 v5 v6))
    else (
      let p2 : PM := pI p1 12 1 0 (cn 3)
      kv121 p2 v1 v2 v3 v4 v5 v6))
  else (
    kv121 p1 v1 v2 v3 v4 v5 v6)
noncomputable def v12_doLimit_75 (p : PM) (v1 : Int32) (v2 : Int32) (v3 : Int32) (v4 : Int32) (v5 : Int32) (v6 : Int32) (s0 : Int32) : Int32 × PM := bv12_doLimit_75 v12_isOpen v12_isShut v12_doLimit_121 p v1 v2 v3 v4 v5 v6 s0
noncomputable def bg12_doLimit_75 (F218 : PM → Int32 → Int32) (G218 : PM → Int32 → Prop) (F282 : PM → Int32 → Int32 → Int32 → Int32) (G282 : PM → Int32 → Int32 → Int32 → Prop) (kg121 : PM → Int32 → Int32 → Int32 → Int32 → Int32 → Int32 → Prop) (p : PM) (v1 : Int32) (v2 : Int32) (v3 : Int32) (v4 : Int32) (v5 : Int32) (v6 : Int32) (s0 : Int32) : Prop :=
  let p1 : PM := pI p 12 1 0 s0
  if (p1.1 12 1 0) = 0 then (
    (G282 p1 v1 v2 v4) ∧ (
    if (F282 p1 v1 v2 v4) = 0 then (
      (G218 p1 v2) ∧ (
      if (F218 p1 v2) = 0 then (
        if v6 = (cn (-100000)) then (
          let p3 : PM := pI p1 12 1 0 (cn 3)
          kg121 p3 v1 v2 v3 v4 v5 v6)
        else (
          if 0 < v5 then (
            let p4 : PM := pI p1 12 1 0 (cn 3)
            kg121 p4 v1 v2 v3 v4 v5 v6)
          else (
            kg121 p1 v1 v2 v3 v4 v5 v6)))
      else (
        kg121 p1 v1 v2 v3 v4 v5 v6)))
    else (
      let p2 : PM := pI p1 12 1 0 (cn 3)
      kg121 p2 v1 v2 v3 v4 v5 v6)))
  else (
    kg121 p1 v1 v2 v3 v4 v5 v6)
noncomputable def g12_doLimit_75 (p : PM) (v1 : Int32) (v2 : Int32) (v3 : Int32) (v4 : Int32) (v5 : Int32) (v6 : Int32) (s0 : Int32) : Prop := bg12_doLimit_75 v12_isOpen g12_isOpen v12_isShut g12_isShut g12_doLimit_121 p v1 v2 v3 v4 v5 v6 s0
noncomputable def bv12_doLimit_70 (kv75 : PM → Int32 → Int32 → Int32 → Int32 → Int32 → Int32 → Int32 → Int32 × PM) (p : PM) (v1 : Int32) (v2 : Int32) (v3 : Int32) (v4 : Int32) (v5 : Int32) (v6 : Int32) : Int32 × PM :=
  kv75 p v1 v2 v3 v4 v5 v6 (cn 2)
noncomputable def v12_doLimit_70 (p : PM) (v1 : Int32) (v2 : Int32) (v3 : Int32) (v4 : Int32) (v5 : Int32) (v6 : Int32) : Int32 × PM := bv12_doLimit_70 v12_doLimit_75 p v1 v2 v3 v4 v5 v6
noncomputable def bg12_doLimit_70 (kg75 : PM → Int32 → Int32 → Int32 → Int32 → Int32 → Int32 → Int32 → Prop) (p : PM) (v1 : Int32) (v2 : Int32) (v3 : Int32) (v4 : Int32) (v5 : Int32) (v6 : Int32) : Prop :=
  kg75 p v1 v2 v3 v4 v5 v6 (cn 2)
noncomputable def g12_doLimit_70 (p : PM) (v1 : Int32) (v2 : Int32) (v3 : Int32) (v4 : Int32) (v5 : Int32) (v6 : Int32) : Prop := bg12_doLimit_70 g12_doLimit_75 p v1 v2 v3 v4 v5 v6
noncomputable def bv12_doLimit (F215 : PM → Int32 → Int32 → Int32 → Int32) (F216 : PM → Int32 → Int32) (F219 : PM → Int32 → Int32 → Int32) (F280 : PM → Int32 → Int32) (F281 : PM → Int32 → Int32) (kv70 : PM → Int32 → Int32 → Int32 → Int32 → Int32 → Int32 → Int32 × PM) (kv75 : PM → Int32 → Int32 → Int32 → Int32 → Int32 → Int32 → Int32 → Int32 × PM) (p : PM) (v1 : Int32) (v2 : Int32) (v3 : Int32) (v4 : Int32) (v5 : Int32) (v6 : Int32) : Int32 × PM :=
  if (F280 p v1) = 0 then (
    kv75 p v1 v2 v3 v4 v5 v6 (cn 1))
  else (
    if (F215 p v2 (cn 0) (cn 5)) = 0 then (
      kv75 p v1 v2 v3 v4 v5 v6 (cn 1))
    else (
      if (F219 p v2 v3) = 0 then (
        kv70 p v1 v2 v3 v4 v5 v6)
      else (
        if (F281 p v4) = 0 then (
          kv70 p v1 v2 v3 v4 v5 v6)
        else (
          if (F215 p v5 (cn 0) (F216 p v4)) = 0 then (
            kv70 p v1 v2 v3 v4 v5 v6)
          else (
            if (F215 p v6 (cn 0) (cn 9)) = 0 then (
              if v6 = (cn (-100000)) then (
                kv75 p v1 v2 v3 v4 v5 v6 (cn 0))
              else (
                kv70 p v1 v2 v3 v4 v5 v6))
            else (
              kv75 p v1 v2 v3 v4 v5 v6 (cn 0)))))))
noncomputable def v12_doLimit (p : PM) (v1 : Int32) (v2 : Int32) (v3 : Int32) (v4 : Int32) (v5 : Int32) (v6 : Int32) : Int32 × PM := bv12_doLimit v12_in v12_abs v12_isPrice v12_isAccount v12_isQuantity v12_doLimit_70 v12_doLimit_75 p v1 v2 v3 v4 v5 v6
noncomputable def bg12_doLimit (F215 : PM → Int32 → Int32 → Int32 → Int32) (G215 : PM → Int32 → Int32 → Int32 → Prop) (F216 : PM → Int32 → Int32) (G216 : PM → Int32 → Prop) (F219 : PM → Int32 → Int32 → Int32) (G219 : PM → Int32 → Int32 → Prop) (F280 : PM → Int32 → Int32) (G280 : PM → Int32 → Prop) (F281 : PM → Int32 → Int32) (G281 : PM → Int32 → Prop) (kg70 : PM → Int32 → Int32 → Int32 → Int32 → Int32 → Int32 → Prop) (kg75 : PM → Int32 → Int32 → Int32 → Int32 → Int32 → Int32 → Int32 → Prop) (p : PM) (v1 : Int32) (v2 : Int32) (v3 : Int32) (v4 : Int32) (v5 : Int32) (v6 : Int32) : Prop :=
  (G280 p v1) ∧ (
  if (F280 p v1) = 0 then (
    kg75 p v1 v2 v3 v4 v5 v6 (cn 1))
  else (
    (G215 p v2 (cn 0) (cn 5)) ∧ (
    if (F215 p v2 (cn 0) (cn 5)) = 0 then (
      kg75 p v1 v2 v3 v4 v5 v6 (cn 1))
    else (
      (G219 p v2 v3) ∧ (
      if (F219 p v2 v3) = 0 then (
        kg70 p v1 v2 v3 v4 v5 v6)
      else (
        (G281 p v4) ∧ (
        if (F281 p v4) = 0 then (
          kg70 p v1 v2 v3 v4 v5 v6)
        else (
          (G216 p v4) ∧ (
          (G215 p v5 (cn 0) (F216 p v4)) ∧ (
          if (F215 p v5 (cn 0) (F216 p v4)) = 0 then (
            kg70 p v1 v2 v3 v4 v5 v6)
          else (
            (G215 p v6 (cn 0) (cn 9)) ∧ (
            if (F215 p v6 (cn 0) (cn 9)) = 0 then (
              if v6 = (cn (-100000)) then (
                kg75 p v1 v2 v3 v4 v5 v6 (cn 0))
              else (
                kg70 p v1 v2 v3 v4 v5 v6))
            else (
              kg75 p v1 v2 v3 v4 v5 v6 (cn 0))))))))))))))
noncomputable def g12_doLimit (p : PM) (v1 : Int32) (v2 : Int32) (v3 : Int32) (v4 : Int32) (v5 : Int32) (v6 : Int32) : Prop := bg12_doLimit v12_in g12_in v12_abs g12_abs v12_isPrice g12_isPrice v12_isAccount g12_isAccount v12_isQuantity g12_isQuantity g12_doLimit_70 g12_doLimit_75 p v1 v2 v3 v4 v5 v6
noncomputable def bv12_doMarket (F215 : PM → Int32 → Int32 → Int32 → Int32) (F224 : PM → Int32 → Int32 → Int32 → Int32 → Int32 → Int32 → Int32 → Int32 × PM) (F257 : PM → Int32 → PM) (F280 : PM → Int32 → Int32) (F281 : PM → Int32 → Int32) (F282 : PM → Int32 → Int32 → Int32 → Int32) (p : PM) (v1 : Int32) (v2 : Int32) (v3 : Int32) : Int32 × PM :=
  if (F280 p v1) = 0 then (
    let p1 : PM := pI p 12 1 0 (cn 1)
    if (p1.1 12 1 0) = 0 then (
      let r2 : Int32 × PM := F224 p1 v1 v2 v3 (cn 0) (cn 1) (cn 0) (p1.1 12 1 18)
      let p3 : PM := F257 r2.2 r2.1
      (((p3.1 12 1 39) - (cn 1)), p3))
    else (
      ((cn 0), p1)))
  else (
    if (F215 p v2 (cn 0) (cn 5)) = 0 then (
      let p13 : PM := pI p 12 1 0 (cn 1)
      if (p13.1 12 1 0) = 0 then (
        let r14 : Int32 × PM := F224 p13 v1 v2 v3 (cn 0) (cn 1) (cn 0) (p13.1 12 1 18)
        let p15 : PM := F257 r14.2 r14.1
        (((p15.1 12 1 39) - (cn 1)), p15))
      else (
        ((cn 0), p13)))
    else (
      if (F281 p v3) = 0 then (
        let p10 : PM := pI p 12 1 0 (cn 2)
        if (p10.1 12 1 0) = 0 then (
          let r11 : Int32 × PM := F224 p10 v1 v2 v3 (cn 0) (cn 1) (cn 0) (p10.1 12 1 18)
          let p12 : PM := F257 r11.2 r11.1
          (((p12.1 12 1 39) - (cn 1)), p12))
        else (
          ((cn 0), p10)))
      else (
        if (F282 p v1 v2 v3) = 0 then (
          let p4 : PM := pI p 12 1 0 (cn 0)
          if (p4.1 12 1 0) = 0 then (
            let r5 : Int32 × PM := F224 p4 v1 v2 v3 (cn 0) (cn 1) (cn 0) (p4.1 12 1 18)
            let p6 : PM := F257 r5.2 r5.1
            (((p6.1 12 1 39) - (cn 1)), p6))
          else (
            ((cn 0), p4)))
        else (
          let p7 : PM := pI p 12 1 0 (cn 3)
          if (p7.1 12 1 0) = 0 then (
            let r8 : Int32 × PM := F224 p7 v1 v2 v3 (cn 0) (cn 1) (cn 0) (p7.1 12 1 18)
            let p9 : PM := F257 r8.2 r8.1
            (((p9.1 12 1 39) - (cn 1)), p9))
          else (
            ((cn 0), p7))))))
noncomputable def v12_doMarket (p : PM) (v1 : Int32) (v2 : Int32) (v3 : Int32) : Int32 × PM := bv12_doMarket v12_in v12_newOrder v12_enters v12_isAccount v12_isQuantity v12_isShut p v1 v2 v3
noncomputable def bg12_doMarket (F215 : PM → Int32 → Int32 → Int32 → Int32) (G215 : PM → Int32 → Int32 → Int32 → Prop) (F224 : PM → Int32 → Int32 → Int32 → Int32 → Int32 → Int32 → Int32 → Int32 × PM) (G224 : PM → Int32 → Int32 → Int32 → Int32 → Int32 → Int32 → Int32 → Prop) (F257 : PM → Int32 → PM) (G257 : PM → Int32 → Prop) (F280 : PM → Int32 → Int32) (G280 : PM → Int32 → Prop) (F281 : PM → Int32 → Int32) (G281 : PM → Int32 → Prop) (F282 : PM → Int32 → Int32 → Int32 → Int32) (G282 : PM → Int32 → Int32 → Int32 → Prop) (p : PM) (v1 : Int32) (v2 : Int32) (v3 : Int32) : Prop :=
  (G280 p v1) ∧ (
  if (F280 p v1) = 0 then (
    let p1 : PM := pI p 12 1 0 (cn 1)
    if (p1.1 12 1 0) = 0 then (
      (G224 p1 v1 v2 v3 (cn 0) (cn 1) (cn 0) (p1.1 12 1 18)) ∧ (
      let r2 : Int32 × PM := F224 p1 v1 v2 v3 (cn 0) (cn 1) (cn 0) (p1.1 12 1 18)
      (G257 r2.2 r2.1) ∧ (
      let p3 : PM := F257 r2.2 r2.1
      True)))
    else (
      True))
  else (
    (G215 p v2 (cn 0) (cn 5)) ∧ (
    if (F215 p v2 (cn 0) (cn 5)) = 0 then (
      let p13 : PM := pI p 12 1 0 (cn 1)
      if (p13.1 12 1 0) = 0 then (
        (G224 p13 v1 v2 v3 (cn 0) (cn 1) (cn 0) (p13.1 12 1 18)) ∧ (
        let r14 : Int32 × PM := F224 p13 v1 v2 v3 (cn 0) (cn 1) (cn 0) (p13.1 12 1 18)
        (G257 r14.2 r14.1) ∧ (
        let p15 : PM := F257 r14.2 r14.1
        True)))
      else (
        True))
    else (
      (G281 p v3) ∧ (
      if (F281 p v3) = 0 then (
        let p10 : PM := pI p 12 1 0 (cn 2)
        if (p10.1 12 1 0) = 0 then (
          (G224 p10 v1 v2 v3 (cn 0) (cn 1) (cn 0) (p10.1 12 1 18)) ∧ (
          let r11 : Int32 × PM := F224 p10 v1 v2 v3 (cn 0) (cn 1) (cn 0) (p10.1 12 1 18)
          (G257 r11.2 r11.1) ∧ (
          let p12 : PM := F257 r11.2 r11.1
          True)))
        else (
          True))
      else (
        (G282 p v1 v2 v3) ∧ (
        if (F282 p v1 v2 v3) = 0 then (
          let p4 : PM := pI p 12 1 0 (cn 0)
          if (p4.1 12 1 0) = 0 then (
            (G224 p4 v1 v2 v3 (cn 0) (cn 1) (cn 0) (p4.1 12 1 18)) ∧ (
            let r5 : Int32 × PM := F224 p4 v1 v2 v3 (cn 0) (cn 1) (cn 0) (p4.1 12 1 18)
            (G257 r5.2 r5.1) ∧ (
            let p6 : PM := F257 r5.2 r5.1
            True)))
          else (
            True))
        else (
          let p7 : PM := pI p 12 1 0 (cn 3)
          if (p7.1 12 1 0) = 0 then (
            (G224 p7 v1 v2 v3 (cn 0) (cn 1) (cn 0) (p7.1 12 1 18)) ∧ (
            let r8 : Int32 × PM := F224 p7 v1 v2 v3 (cn 0) (cn 1) (cn 0) (p7.1 12 1 18)
            (G257 r8.2 r8.1) ∧ (
            let p9 : PM := F257 r8.2 r8.1
            True)))
          else (
            True)))))))))
noncomputable def g12_doMarket (p : PM) (v1 : Int32) (v2 : Int32) (v3 : Int32) : Prop := bg12_doMarket v12_in g12_in v12_newOrder g12_newOrder v12_enters g12_enters v12_isAccount g12_isAccount v12_isQuantity g12_isQuantity v12_isShut g12_isShut p v1 v2 v3
noncomputable def bv12_doIceberg (F215 : PM → Int32 → Int32 → Int32 → Int32) (F216 : PM → Int32 → Int32) (F219 : PM → Int32 → Int32 → Int32) (F224 : PM → Int32 → Int32 → Int32 → Int32 → Int32 → Int32 → Int32 → Int32 × PM) (F257 : PM → Int32 → PM) (F280 : PM → Int32 → Int32) (F281 : PM → Int32 → Int32) (F282 : PM → Int32 → Int32 → Int32 → Int32) (p : PM) (v1 : Int32) (v2 : Int32) (v3 : Int32) (v4 : Int32) (v5 : Int32) : Int32 × PM :=
  if (F280 p v1) = 0 then (
    let p1 : PM := pI p 12 1 0 (cn 1)
    if (p1.1 12 1 0) = 0 then (
      let r2 : Int32 × PM := F224 p1 v1 v2 v4 v3 (cn 0) (cn 1) (p1.1 12 1 18)
      let p3 : PM := pI r2.2 13 21 (r2.1).toNatClampNeg v5
      let p4 : PM := F257 p3 r2.1
      (((p4.1 12 1 39) - (cn 1)), p4))
    else (
      ((cn 0), p1)))
  else (
    if (F215 p v2 (cn 0) (cn 5)) = 0 then (
      let p25 : PM := pI p 12 1 0 (cn 1)
      if (p25.1 12 1 0) = 0 then (
        let r26 : Int32 × PM := F224 p25 v1 v2 v4 v3 (cn 0) (cn 1) (p25.1 12 1 18)
        let p27 : PM := pI r26.2 13 21 (r26.1).toNatClampNeg v5
        let p28 : PM := F257 p27 r26.1
        (((p28.1 12 1 39) - (cn 1)), p28))
      else (
        ((cn 0), p25)))
    else (
      if (F219 p v2 v3) = 0 then (
        let p5 : PM := pI p 12 1 0 (cn 2)
        if (p5.1 12 1 0) = 0 then (
          let r6 : Int32 × PM := F224 p5 v1 v2 v4 v3 (cn 0) (cn 1) (p5.1 12 1 18)
          let p7 : PM := pI r6.2 13 21 (r6.1).toNatClampNeg v5
          let p8 : PM := F257 p7 r6.1
          (((p8.1 12 1 39) - (cn 1)), p8))
        else (
          ((cn 0), p5)))
      else (
        if (F281 p v4) = 0 then (
          let p9 : PM := pI p 12 1 0 (cn 2)
          if (p9.1 12 1 0) = 0 then (
            let r10 : Int32 × PM := F224 p9 v1 v2 v4 v3 (cn 0) (cn 1) (p9.1 12 1 18)
            let p11 : PM := pI r10.2 13 21 (r10.1).toNatClampNeg v5
            let p12 : PM := F257 p11 r10.1
            (((p12.1 12 1 39) - (cn 1)), p12))
          else (
            ((cn 0), p9)))
        else (
          if (F215 p v5 (cn 1) (F216 p v4)) = 0 then (
            let p21 : PM := pI p 12 1 0 (cn 2)
            if (p21.1 12 1 0) = 0 then (
              let r22 : Int32 × PM := F224 p21 v1 v2 v4 v3 (cn 0) (cn 1) (p21.1 12 1 18)
              let p23 : PM := pI r22.2 13 21 (r22.1).toNatClampNeg v5
              let p24 : PM := F257 p23 r22.1
              (((p24.1 12 1 39) - (cn 1)), p24))
            else (
              ((cn 0), p21)))
          else (
            if (F282 p v1 v2 v4) = 0 then (
              let p13 : PM := pI p 12 1 0 (cn 0)
              if (p13.1 12 1 0) = 0 then (
                let r14 : Int32 × PM := F224 p13 v1 v2 v4 v3 (cn 0) (cn 1) (p13.1 12 1 18)
                let p15 : PM := pI r14.2 13 21 (r14.1).toNatClampNeg v5
                let p16 : PM := F257 p15 r14.1
                (((p16.1 12 1 39) - (cn 1)), p16))
              else (
                ((cn 0), p13)))
            else (
              let p17 : PM := pI p 12 1 0 (cn 3)
              if (p17.1 12 1 0) = 0 then (
                let r18 : Int32 × PM := F224 p17 v1 v2 v4 v3 (cn 0) (cn 1) (p17.1 12 1 18)
                let p19 : PM := pI r18.2 13 21 (r18.1).toNatClampNeg v5
                let p20 : PM := F257 p19 r18.1
                (((p20.1 12 1 39) - (cn 1)), p20))
              else (
                ((cn 0), p17))))))))
noncomputable def v12_doIceberg (p : PM) (v1 : Int32) (v2 : Int32) (v3 : Int32) (v4 : Int32) (v5 : Int32) : Int32 × PM := bv12_doIceberg v12_in v12_abs v12_isPrice v12_newOrder v12_enters v12_isAccount v12_isQuantity v12_isShut p v1 v2 v3 v4 v5
noncomputable def bg12_doIceberg (F215 : PM → Int32 → Int32 → Int32 → Int32) (G215 : PM → Int32 → Int32 → Int32 → Prop) (F216 : PM → Int32 → Int32) (G216 : PM → Int32 → Prop) (F219 : PM → Int32 → Int32 → Int32) (G219 : PM → Int32 → Int32 → Prop) (F224 : PM → Int32 → Int32 → Int32 → Int32 → Int32 → Int32 → Int32 → Int32 × PM) (G224 : PM → Int32 → Int32 → Int32 → Int32 → Int32 → Int32 → Int32 → Prop) (F257 : PM → Int32 → PM) (G257 : PM → Int32 → Prop) (F280 : PM → Int32 → Int32) (G280 : PM → Int32 → Prop) (F281 : PM → Int32 → Int32) (G281 : PM → Int32 → Prop) (F282 : PM → Int32 → Int32 → Int32 → Int32) (G282 : PM → Int32 → Int32 → Int32 → Prop) (p : PM) (v1 : Int32) (v2 : Int32) (v3 : Int32) (v4 : Int32) (v5 : Int32) : Prop :=
  (G280 p v1) ∧ (
  if (F280 p v1) = 0 then (
    let p1 : PM := pI p 12 1 0 (cn 1)
    if (p1.1 12 1 0) = 0 then (
      (G224 p1 v1 v2 v4 v3 (cn 0) (cn 1) (p1.1 12 1 18)) ∧ (
      let r2 : Int32 × PM := F224 p1 v1 v2 v4 v3 (cn 0) (cn 1) (p1.1 12 1 18)
      (inb r2.1 44) ∧ (
      let p3 : PM := pI r2.2 13 21 (r2.1).toNatClampNeg v5
      (G257 p3 r2.1) ∧ (
      let p4 : PM := F257 p3 r2.1
      True))))
    else (
      True))
  else (
    (G215 p v2 (cn 0) (cn 5)) ∧ (
    if (F215 p v2 (cn 0) (cn 5)) = 0 then (
      let p25 : PM := pI p 12 1 0 (cn 1)
      if (p25.1 12 1 0) = 0 then (
        (G224 p25 v1 v2 v4 v3 (cn 0) (cn 1) (p25.1 12 1 18)) ∧ (
        let r26 : Int32 × PM := F224 p25 v1 v2 v4 v3 (cn 0) (cn 1) (p25.1 12 1 18)
        (inb r26.1 44) ∧ (
        let p27 : PM := pI r26.2 13 21 (r26.1).toNatClampNeg v5
        (G257 p27 r26.1) ∧ (
        let p28 : PM := F257 p27 r26.1
        True))))
      else (
        True))
    else (
      (G219 p v2 v3) ∧ (
      if (F219 p v2 v3) = 0 then (
        let p5 : PM := pI p 12 1 0 (cn 2)
        if (p5.1 12 1 0) = 0 then (
          (G224 p5 v1 v2 v4 v3 (cn 0) (cn 1) (p5.1 12 1 18)) ∧ (
          let r6 : Int32 × PM := F224 p5 v1 v2 v4 v3 (cn 0) (cn 1) (p5.1 12 1 18)
          (inb r6.1 44) ∧ (
          let p7 : PM := pI r6.2 13 21 (r6.1).toNatClampNeg v5
          (G257 p7 r6.1) ∧ (
          let p8 : PM := F257 p7 r6.1
          True))))
        else (
          True))
      else (
        (G281 p v4) ∧ (
        if (F281 p v4) = 0 then (
          let p9 : PM := pI p 12 1 0 (cn 2)
          if (p9.1 12 1 0) = 0 then (
            (G224 p9 v1 v2 v4 v3 (cn 0) (cn 1) (p9.1 12 1 18)) ∧ (
            let r10 : Int32 × PM := F224 p9 v1 v2 v4 v3 (cn 0) (cn 1) (p9.1 12 1 18)
            (inb r10.1 44) ∧ (
            let p11 : PM := pI r10.2 13 21 (r10.1).toNatClampNeg v5
            (G257 p11 r10.1) ∧ (
            let p12 : PM := F257 p11 r10.1
            True))))
          else (
            True))
        else (
          (G216 p v4) ∧ (
          (G215 p v5 (cn 1) (F216 p v4)) ∧ (
          if (F215 p v5 (cn 1) (F216 p v4)) = 0 then (
            let p21 : PM := pI p 12 1 0 (cn 2)
            if (p21.1 12 1 0) = 0 then (
              (G224 p21 v1 v2 v4 v3 (cn 0) (cn 1) (p21.1 12 1 18)) ∧ (
              let r22 : Int32 × PM := F224 p21 v1 v2 v4 v3 (cn 0) (cn 1) (p21.1 12 1 18)
              (inb r22.1 44) ∧ (
              let p23 : PM := pI r22.2 13 21 (r22.1).toNatClampNeg v5
              (G257 p23 r22.1) ∧ (
              let p24 : PM := F257 p23 r22.1
              True))))
            else (
              True))
          else (
            (G282 p v1 v2 v4) ∧ (
            if (F282 p v1 v2 v4) = 0 then (
              let p13 : PM := pI p 12 1 0 (cn 0)
              if (p13.1 12 1 0) = 0 then (
                (G224 p13 v1 v2 v4 v3 (cn 0) (cn 1) (p13.1 12 1 18)) ∧ (
                let r14 : Int32 × PM := F224 p13 v1 v2 v4 v3 (cn 0) (cn 1) (p13.1 12 1 18)
                (inb r14.1 44) ∧ (
                let p15 : PM := pI r14.2 13 21 (r14.1).toNatClampNeg v5
                (G257 p15 r14.1) ∧ (
                let p16 : PM := F257 p15 r14.1
                True))))
              else (
                True))
            else (
              let p17 : PM := pI p 12 1 0 (cn 3)
              if (p17.1 12 1 0) = 0 then (
                (G224 p17 v1 v2 v4 v3 (cn 0) (cn 1) (p17.1 12 1 18)) ∧ (
                let r18 : Int32 × PM := F224 p17 v1 v2 v4 v3 (cn 0) (cn 1) (p17.1 12 1 18)
                (inb r18.1 44) ∧ (
                let p19 : PM := pI r18.2 13 21 (r18.1).toNatClampNeg v5
                (G257 p19 r18.1) ∧ (
                let p20 : PM := F257 p19 r18.1
                True))))
              else (
                True))))))))))))))
noncomputable def g12_doIceberg (p : PM) (v1 : Int32) (v2 : Int32) (v3 : Int32) (v4 : Int32) (v5 : Int32) : Prop := bg12_doIceberg v12_in g12_in v12_abs g12_abs v12_isPrice g12_isPrice v12_newOrder g12_newOrder v12_enters g12_enters v12_isAccount g12_isAccount v12_isQuantity g12_isQuantity v12_isShut g12_isShut p v1 v2 v3 v4 v5
noncomputable def bv12_doPeg (F215 : PM → Int32 → Int32 → Int32 → Int32) (F219 : PM → Int32 → Int32 → Int32) (F224 : PM → Int32 → Int32 → Int32 → Int32 → Int32 → Int32 → Int32 → Int32 × PM) (F280 : PM → Int32 → Int32) (F281 : PM → Int32 → Int32) (F282 : PM → Int32 → Int32 → Int32 → Int32) (p : PM) (v1 : Int32) (v2 : Int32) (v3 : Int32) (v4 : Int32) (v5 : Int32) : Int32 × PM :=
  if (F280 p v1) = 0 then (
    let p1 : PM := pI p 12 1 0 (cn 1)
    if (p1.1 12 1 0) = 0 then (
      let r2 : Int32 × PM := F224 p1 v1 v2 v4 v3 (cn 0) (cn 2) (p1.1 12 1 18)
      let p3 : PM := pI r2.2 13 26 (r2.1).toNatClampNeg v5
      (((p3.1 12 1 39) - (cn 1)), p3))
    else (
      ((cn 0), p1)))
  else (
    if (F215 p v2 (cn 0) (cn 5)) = 0 then (
      let p19 : PM := pI p 12 1 0 (cn 1)
      if (p19.1 12 1 0) = 0 then (
        let r20 : Int32 × PM := F224 p19 v1 v2 v4 v3 (cn 0) (cn 2) (p19.1 12 1 18)
        let p21 : PM := pI r20.2 13 26 (r20.1).toNatClampNeg v5
        (((p21.1 12 1 39) - (cn 1)), p21))
      else (
        ((cn 0), p19)))
    else (
      if (F219 p v2 v3) = 0 then (
        let p4 : PM := pI p 12 1 0 (cn 2)
        if (p4.1 12 1 0) = 0 then (
          let r5 : Int32 × PM := F224 p4 v1 v2 v4 v3 (cn 0) (cn 2) (p4.1 12 1 18)
          let p6 : PM := pI r5.2 13 26 (r5.1).toNatClampNeg v5
          (((p6.1 12 1 39) - (cn 1)), p6))
        else (
          ((cn 0), p4)))
      else (
        if (F281 p v4) = 0 then (
          let p7 : PM := pI p 12 1 0 (cn 2)
          if (p7.1 12 1 0) = 0 then (
            let r8 : Int32 × PM := F224 p7 v1 v2 v4 v3 (cn 0) (cn 2) (p7.1 12 1 18)
            let p9 : PM := pI r8.2 13 26 (r8.1).toNatClampNeg v5
            (((p9.1 12 1 39) - (cn 1)), p9))
          else (
            ((cn 0), p7)))
        else (
          if (F215 p v5 (cn 0) (cn 99)) = 0 then (
            let p16 : PM := pI p 12 1 0 (cn 2)
            if (p16.1 12 1 0) = 0 then (
              let r17 : Int32 × PM := F224 p16 v1 v2 v4 v3 (cn 0) (cn 2) (p16.1 12 1 18)
              let p18 : PM := pI r17.2 13 26 (r17.1).toNatClampNeg v5
              (((p18.1 12 1 39) - (cn 1)), p18))
            else (
              ((cn 0), p16)))
          else (
            if (F282 p v1 v2 v4) = 0 then (
              let p10 : PM := pI p 12 1 0 (cn 0)
              if (p10.1 12 1 0) = 0 then (
                let r11 : Int32 × PM := F224 p10 v1 v2 v4 v3 (cn 0) (cn 2) (p10.1 12 1 18)
                let p12 : PM := pI r11.2 13 26 (r11.1).toNatClampNeg v5
                (((p12.1 12 1 39) - (cn 1)), p12))
              else (
                ((cn 0), p10)))
            else (
              let p13 : PM := pI p 12 1 0 (cn 3)
              if (p13.1 12 1 0) = 0 then (
                let r14 : Int32 × PM := F224 p13 v1 v2 v4 v3 (cn 0) (cn 2) (p13.1 12 1 18)
                let p15 : PM := pI r14.2 13 26 (r14.1).toNatClampNeg v5
                (((p15.1 12 1 39) - (cn 1)), p15))
              else (
                ((cn 0), p13))))))))
noncomputable def v12_doPeg (p : PM) (v1 : Int32) (v2 : Int32) (v3 : Int32) (v4 : Int32) (v5 : Int32) : Int32 × PM := bv12_doPeg v12_in v12_isPrice v12_newOrder v12_isAccount v12_isQuantity v12_isShut p v1 v2 v3 v4 v5
noncomputable def bg12_doPeg (F215 : PM → Int32 → Int32 → Int32 → Int32) (G215 : PM → Int32 → Int32 → Int32 → Prop) (F219 : PM → Int32 → Int32 → Int32) (G219 : PM → Int32 → Int32 → Prop) (F224 : PM → Int32 → Int32 → Int32 → Int32 → Int32 → Int32 → Int32 → Int32 × PM) (G224 : PM → Int32 → Int32 → Int32 → Int32 → Int32 → Int32 → Int32 → Prop) (F280 : PM → Int32 → Int32) (G280 : PM → Int32 → Prop) (F281 : PM → Int32 → Int32) (G281 : PM → Int32 → Prop) (F282 : PM → Int32 → Int32 → Int32 → Int32) (G282 : PM → Int32 → Int32 → Int32 → Prop) (p : PM) (v1 : Int32) (v2 : Int32) (v3 : Int32) (v4 : Int32) (v5 : Int32) : Prop :=
  (G280 p v1) ∧ (
  if (F280 p v1) = 0 then (
    let p1 : PM := pI p 12 1 0 (cn 1)
    if (p1.1 12 1 0) = 0 then (
      (G224 p1 v1 v2 v4 v3 (cn 0) (cn 2) (p1.1 12 1 18)) ∧ (
      let r2 : Int32 × PM := F224 p1 v1 v2 v4 v3 (cn 0) (cn 2) (p1.1 12 1 18)
      (inb r2.1 44) ∧ (
      let p3 : PM := pI r2.2 13 26 (r2.1).toNatClampNeg v5
      True)))
    else (
      True))
  else (
    (G215 p v2 (cn 0) (cn 5)) ∧ (
    if (F215 p v2 (cn 0) (cn 5)) = 0 then (
      let p19 : PM := pI p 12 1 0 (cn 1)
      if (p19.1 12 1 0) = 0 then (
        (G224 p19 v1 v2 v4 v3 (cn 0) (cn 2) (p19.1 12 1 18)) ∧ (
        let r20 : Int32 × PM := F224 p19 v1 v2 v4 v3 (cn 0) (cn 2) (p19.1 12 1 18)
        (inb r20.1 44) ∧ (
        let p21 : PM := pI r20.2 13 26 (r20.1).toNatClampNeg v5
        True)))
      else (
        True))
    else (
      (G219 p v2 v3) ∧ (
      if (F219 p v2 v3) = 0 then (
        let p4 : PM := pI p 12 1 0 (cn 2)
        if (p4.1 12 1 0) = 0 then (
          (G224 p4 v1 v2 v4 v3 (cn 0) (cn 2) (p4.1 12 1 18)) ∧ (
          let r5 : Int32 × PM := F224 p4 v1 v2 v4 v3 (cn 0) (cn 2) (p4.1 12 1 18)
          (inb r5.1 44) ∧ (
          let p6 : PM := pI r5.2 13 26 (r5.1).toNatClampNeg v5
          True)))
        else (
          True))
      else (
        (G281 p v4) ∧ (
        if (F281 p v4) = 0 then (
          let p7 : PM := pI p 12 1 0 (cn 2)
          if (p7.1 12 1 0) = 0 then (
            (G224 p7 v1 v2 v4 v3 (cn 0) (cn 2) (p7.1 12 1 18)) ∧ (
            let r8 : Int32 × PM := F224 p7 v1 v2 v4 v3 (cn 0) (cn 2) (p7.1 12 1 18)
            (inb r8.1 44) ∧ (
            let p9 : PM := pI r8.2 13 26 (r8.1).toNatClampNeg v5
            True)))
          else (
            True))
        else (
          (G215 p v5 (cn 0) (cn 99)) ∧ (
          if (F215 p v5 (cn 0) (cn 99)) = 0 then (
            let p16 : PM := pI p 12 1 0 (cn 2)
            if (p16.1 12 1 0) = 0 then (
              (G224 p16 v1 v2 v4 v3 (cn 0) (cn 2) (p16.1 12 1 18)) ∧ (
              let r17 : Int32 × PM := F224 p16 v1 v2 v4 v3 (cn 0) (cn 2) (p16.1 12 1 18)
              (inb r17.1 44) ∧ (
              let p18 : PM := pI r17.2 13 26 (r17.1).toNatClampNeg v5
              True)))
            else (
              True))
          else (
            (G282 p v1 v2 v4) ∧ (
            if (F282 p v1 v2 v4) = 0 then (
              let p10 : PM := pI p 12 1 0 (cn 0)
              if (p10.1 12 1 0) = 0 then (
                (G224 p10 v1 v2 v4 v3 (cn 0) (cn 2) (p10.1 12 1 18)) ∧ (
                let r11 : Int32 × PM := F224 p10 v1 v2 v4 v3 (cn 0) (cn 2) (p10.1 12 1 18)
                (inb r11.1 44) ∧ (
                let p12 : PM := pI r11.2 13 26 (r11.1).toNatClampNeg v5
                True)))
              else (
                True))
            else (
              let p13 : PM := pI p 12 1 0 (cn 3)
              if (p13.1 12 1 0) = 0 then (
                (G224 p13 v1 v2 v4 v3 (cn 0) (cn 2) (p13.1 12 1 18)) ∧ (
                let r14 : Int32 × PM := F224 p13 v1 v2 v4 v3 (cn 0) (cn 2) (p13.1 12 1 18)
                (inb r14.1 44) ∧ (
                let p15 : PM := pI r14.2 13 26 (r14.1).toNatClampNeg v5
                True)))
              else (
                True)))))))))))))
noncomputable def g12_doPeg (p : PM) (v1 : Int32) (v2 : Int32) (v3 : Int32) (v4 : Int32) (v5 : Int32) : Prop := bg12_doPeg v12_in g12_in v12_isPrice g12_isPrice v12_newOrder g12_newOrder v12_isAccount g12_isAccount v12_isQuantity g12_isQuantity v12_isShut g12_isShut p v1 v2 v3 v4 v5
noncomputable def bv12_doStop_17 (F224 : PM → Int32 → Int32 → Int32 → Int32 → Int32 → Int32 → Int32 → Int32 × PM) (p : PM) (v1 : Int32) (v2 : Int32) (v3 : Int32) (v4 : Int32) (v5 : Int32) : Int32 × PM :=
  let p1 : PM := pI p 12 1 0 (cn 1)
  if (p1.1 12 1 0) = 0 then (
    if v4 = 0 then (
      let r4 : Int32 × PM := F224 p1 v1 v2 v5 v4 (cn 1) (cn 3) (p1.1 12 1 18)
      let p5 : PM := pI r4.2 13 27 (r4.1).toNatClampNeg v3
      (((p5.1 12 1 39) - (cn 1)), p5))
    else (
      let r2 : Int32 × PM := F224 p1 v1 v2 v5 v4 (cn 0) (cn 3) (p1.1 12 1 18)
      let p3 : PM := pI r2.2 13 27 (r2.1).toNatClampNeg v3
      (((p3.1 12 1 39) - (cn 1)), p3)))
  else (
    ((cn 0), p1))
noncomputable def v12_doStop_17 (p : PM) (v1 : Int32) (v2 : Int32) (v3 : Int32) (v4 : Int32) (v5 : Int32) : Int32 × PM := bv12_doStop_17 v12_newOrder p v1 v2 v3 v4 v5
noncomputable def bg12_doStop_17 (F224 : PM → Int32 → Int32 → Int32 → Int32 → Int32 → Int32 → Int32 → Int32 × PM) (G224 : PM → Int32 → Int32 → Int32 → Int32 → Int32 → Int32 → Int32 → Prop) (p : PM) (v1 : Int32) (v2 : Int32) (v3 : Int32) (v4 : Int32) (v5 : Int32) : Prop :=
  let p1 : PM := pI p 12 1 0 (cn 1)
  if (p1.1 12 1 0) = 0 then (
    if v4 = 0 then (
      (G224 p1 v1 v2 v5 v4 (cn 1) (cn 3) (p1.1 12 1 18)) ∧ (
      let r4 : Int32 × PM := F224 p1 v1 v2 v5 v4 (cn 1) (cn 3) (p1.1 12 1 18)
      (inb r4.1 44) ∧ (
      let p5 : PM := pI r4.2 13 27 (r4.1).toNatClampNeg v3
      True)))
    else (
      (G224 p1 v1 v2 v5 v4 (cn 0) (cn 3) (p1.1 12 1 18)) ∧ (
      let r2 : Int32 × PM := F224 p1 v1 v2 v5 v4 (cn 0) (cn 3) (p1.1 12 1 18)
      (inb r2.1 44) ∧ (
      let p3 : PM := pI r2.2 13 27 (r2.1).toNatClampNeg v3
      True))))
  else (
    True)
noncomputable def g12_doStop_17 (p : PM) (v1 : Int32) (v2 : Int32) (v3 : Int32) (v4 : Int32) (v5 : Int32) : Prop := bg12_doStop_17 v12_newOrder g12_newOrder p v1 v2 v3 v4 v5
noncomputable def bv12_doStop_53 (F224 : PM → Int32 → Int32 → Int32 → Int32 → Int32 → Int32 → Int32 → Int32 × PM) (p : PM) (v1 : Int32) (v2 : Int32) (v3 : Int32) (v4 : Int32) (v5 : Int32) : Int32 × PM :=
  let p1 : PM := pI p 12 1 0 (cn 2)
  if (p1.1 12 1 0) = 0 then (
    if v4 = 0 then (
      let r4 : Int32 × PM := F224 p1 v1 v2 v5 v4 (cn 1) (cn 3) (p1.1 12 1 18)
      let p5 : PM := pI r4.2 13 27 (r4.1).toNatClampNeg v3
      (((p5.1 12 1 39) - (cn 1)), p5))
    else (
      let r2 : Int32 × PM := F224 p1 v1 v2 v5 v4 (cn 0) (cn 3) (p1.1 12 1 18)
      let p3 : PM := pI r2.2 13 27 (r2.1).toNatClampNeg v3
      (((p3.1 12 1 39) - (cn 1)), p3)))
  else (
    ((cn 0), p1))
noncomputable def v12_doStop_53 (p : PM) (v1 : Int32) (v2 : Int32) (v3 : Int32) (v4 : Int32) (v5 : Int32) : Int32 × PM := bv12_doStop_53 v12_newOrder p v1 v2 v3 v4 v5
noncomputable def bg12_doStop_53 (F224 : PM → Int32 → Int32 → Int32 → Int32 → Int32 → Int32 → Int32 → Int32 × PM) (G224 : PM → Int32 → Int32 → Int32 → Int32 → Int32 → Int32 → Int32 → Prop) (p : PM) (v1 : Int32) (v2 : Int32) (v3 : Int32) (v4 : Int32) (v5 : Int32) : Prop :=
  let p1 : PM := pI p 12 1 0 (cn 2)
  if (p1.1 12 1 0) = 0 then (
    if v4 = 0 then (
      (G224 p1 v1 v2 v5 v4 (cn 1) (cn 3) (p1.1 12 1 18)) ∧ (
      let r4 : Int32 × PM := F224 p1 v1 v2 v5 v4 (cn 1) (cn 3) (p1.1 12 1 18)
      (inb r4.1 44) ∧ (
      let p5 : PM := pI r4.2 13 27 (r4.1).toNatClampNeg v3
      True)))
    else (
      (G224 p1 v1 v2 v5 v4 (cn 0) (cn 3) (p1.1 12 1 18)) ∧ (
      let r2 : Int32 × PM := F224 p1 v1 v2 v5 v4 (cn 0) (cn 3) (p1.1 12 1 18)
      (inb r2.1 44) ∧ (
      let p3 : PM := pI r2.2 13 27 (r2.1).toNatClampNeg v3
      True))))
  else (
    True)
noncomputable def g12_doStop_53 (p : PM) (v1 : Int32) (v2 : Int32) (v3 : Int32) (v4 : Int32) (v5 : Int32) : Prop := bg12_doStop_53 v12_newOrder g12_newOrder p v1 v2 v3 v4 v5
noncomputable def bv12_doStop (F215 : PM → Int32 → Int32 → Int32 → Int32) (F224 : PM → Int32 → Int32 → Int32 → Int32 → Int32 → Int32 → Int32 → Int32 × PM) (F280 : PM → Int32 → Int32) (F281 : PM → Int32 → Int32) (F282 : PM → Int32 → Int32 → Int32 → Int32) (kv17 : PM → Int32 → Int32 → Int32 → Int32 → Int32 → Int32 × PM) (kv53 : PM → Int32 → Int32 → Int32 → Int32 → Int32 → Int32 × PM) (p : PM) (v1 : Int32) (v2 : Int32) (v3 : Int32) (v4 : Int32) (v5 : Int32) : Int32 × PM :=
  if (F280 p v1) = 0 then (
    kv17 p v1 v2 v3 v4 v5)
  else (
    if (F215 p v2 (cn 0) (cn 3)) = 0 then (
      kv17 p v1 v2 v3 v4 v5)
    else (
      if (F215 p v3 (cn 1) (cn 9999)) = 0 then (
        kv53 p v1 v2 v3 v4 v5)
      else (
        if (F215 p v4 (cn 0) (cn 9999)) = 0 then (
          kv53 p v1 v2 v3 v4 v5)
        else (
          if (F281 p v5) = 0 then (
            kv53 p v1 v2 v3 v4 v5)
          else (
            if (F282 p v1 v2 v5) = 0 then (
              let p1 : PM := pI p 12 1 0 (cn 0)
              if (p1.1 12 1 0) = 0 then (
                if v4 = 0 then (
                  let r4 : Int32 × PM := F224 p1 v1 v2 v5 v4 (cn 1) (cn 3) (p1.1 12 1 18)
                  let p5 : PM := pI r4.2 13 27 (r4.1).toNatClampNeg v3
                  (((p5.1 12 1 39) - (cn 1)), p5))
                else (
                  let r2 : Int32 × PM := F224 p1 v1 v2 v5 v4 (cn 0) (cn 3) (p1.1 12 1 18)
                  let p3 : PM := pI r2.2 13 27 (r2.1).toNatClampNeg v3
                  (((p3.1 12 1 39) - (cn 1)), p3)))
              else (
                ((cn 0), p1)))
            else (
              let p6 : PM := pI p 12 1 0 (cn 3)
              if (p6.1 12 1 0) = 0 then (
                if v4 = 0 then (
                  let r9 : Int32 × PM := F224 p6 v1 v2 v5 v4 (cn 1) (cn 3) (p6.1 12 1 18)
                  let p10 : PM := pI r9.2 13 27 (r9.1).toNatClampNeg v3
                  (((p10.1 12 1 39) - (cn 1)), p10))
                else (
                  let r7 : Int32 × PM := F224 p6 v1 v2 v5 v4 (cn 0) (cn 3) (p6.1 12 1 18)
                  let p8 : PM := pI r7.2 13 27 (r7.1).toNatClampNeg v3
                  (((p8.1 12 1 39) - (cn 1)), p8)))
              else (
                ((cn 0), p6))))))))
noncomputable def v12_doStop (p : PM) (v1 : Int32) (v2 : Int32) (v3 : Int32) (v4 : Int32) (v5 : Int32) : Int32 × PM := bv12_doStop v12_in v12_newOrder v12_isAccount v12_isQuantity v12_isShut v12_doStop_17 v12_doStop_53 p v1 v2 v3 v4 v5
noncomputable def bg12_doStop (F215 : PM → Int32 → Int32 → Int32 → Int32) (G215 : PM → Int32 → Int32 → Int32 → Prop) (F224 : PM → Int32 → Int32 → Int32 → Int32 → Int32 → Int32 → Int32 → Int32 × PM) (G224 : PM → Int32 → Int32 → Int32 → Int32 → Int32 → Int32 → Int32 → Prop) (F280 : PM → Int32 → Int32) (G280 : PM → Int32 → Prop) (F281 : PM → Int32 → Int32) (G281 : PM → Int32 → Prop) (F282 : PM → Int32 → Int32 → Int32 → Int32) (G282 : PM → Int32 → Int32 → Int32 → Prop) (kg17 : PM → Int32 → Int32 → Int32 → Int32 → Int32 → Prop) (kg53 : PM → Int32 → Int32 → Int32 → Int32 → Int32 → Prop) (p : PM) (v1 : Int32) (v2 : Int32) (v3 : Int32) (v4 : Int32) (v5 : Int32) : Prop :=
  (G280 p v1) ∧ (
  if (F280 p v1) = 0 then (
    kg17 p v1 v2 v3 v4 v5)
  else (
    (G215 p v2 (cn 0) (cn 3)) ∧ (
    if (F215 p v2 (cn 0) (cn 3)) = 0 then (
      kg17 p v1 v2 v3 v4 v5)
    else (
      (G215 p v3 (cn 1) (cn 9999)) ∧ (
      if (F215 p v3 (cn 1) (cn 9999)) = 0 then (
        kg53 p v1 v2 v3 v4 v5)
      else (
        (G215 p v4 (cn 0) (cn 9999)) ∧ (
        if (F215 p v4 (cn 0) (cn 9999)) = 0 then (
          kg53 p v1 v2 v3 v4 v5)
        else (
          (G281 p v5) ∧ (
          if (F281 p v5) = 0 then (
            kg53 p v1 v2 v3 v4 v5)
          else (
            (G282 p v1 v2 v5) ∧ (
            if (F282 p v1 v2 v5) = 0 then (
              let p1 : PM := pI p 12 1 0 (cn 0)
              if (p1.1 12 1 0) = 0 then (
                if v4 = 0 then (
                  (G224 p1 v1 v2 v5 v4 (cn 1) (cn 3) (p1.1 12 1 18)) ∧ (
                  let r4 : Int32 × PM := F224 p1 v1 v2 v5 v4 (cn 1) (cn 3) (p1.1 12 1 18)
                  (inb r4.1 44) ∧ (
                  let p5 : PM := pI r4.2 13 27 (r4.1).toNatClampNeg v3
                  True)))
                else (
                  (G224 p1 v1 v2 v5 v4 (cn 0) (cn 3) (p1.1 12 1 18)) ∧ (
                  let r2 : Int32 × PM := F224 p1 v1 v2 v5 v4 (cn 0) (cn 3) (p1.1 12 1 18)
                  (inb r2.1 44) ∧ (
                  let p3 : PM := pI r2.2 13 27 (r2.1).toNatClampNeg v3
                  True))))
              else (
                True))
            else (
              let p6 : PM := pI p 12 1 0 (cn 3)
              if (p6.1 12 1 0) = 0 then (
                if v4 = 0 then (
                  (G224 p6 v1 v2 v5 v4 (cn 1) (cn 3) (p6.1 12 1 18)) ∧ (
                  let r9 : Int32 × PM := F224 p6 v1 v2 v5 v4 (cn 1) (cn 3) (p6.1 12 1 18)
                  (inb r9.1 44) ∧ (
                  let p10 : PM := pI r9.2 13 27 (r9.1).toNatClampNeg v3
                  True)))
                else (
                  (G224 p6 v1 v2 v5 v4 (cn 0) (cn 3) (p6.1 12 1 18)) ∧ (
                  let r7 : Int32 × PM := F224 p6 v1 v2 v5 v4 (cn 0) (cn 3) (p6.1 12 1 18)
                  (inb r7.1 44) ∧ (
                  let p8 : PM := pI r7.2 13 27 (r7.1).toNatClampNeg v3
                  True))))
              else (
                True)))))))))))))
noncomputable def g12_doStop (p : PM) (v1 : Int32) (v2 : Int32) (v3 : Int32) (v4 : Int32) (v5 : Int32) : Prop := bg12_doStop v12_in g12_in v12_newOrder g12_newOrder v12_isAccount g12_isAccount v12_isQuantity g12_isQuantity v12_isShut g12_isShut g12_doStop_17 g12_doStop_53 p v1 v2 v3 v4 v5
noncomputable def bv12_doQuote_130 (F224 : PM → Int32 → Int32 → Int32 → Int32 → Int32 → Int32 → Int32 → Int32 × PM) (F257 : PM → Int32 → PM) (kv130 : PM → Int32 → Int32 → Int32 → Int32 → Int32 → Int32 → Int32 × PM) (p : PM) (v1 : Int32) (v2 : Int32) (v3 : Int32) (v4 : Int32) (v5 : Int32) (v6 : Int32) : Int32 × PM :=
  if v6 < (cn 44) then (
    if (p.1 15 3 (v6).toNatClampNeg) = 0 then (
      let p8 : PM := pI p 15 3 (v6).toNatClampNeg (cn 0)
      kv130 p8 v1 v2 v3 v4 v5 (v6 + (cn 1)))
    else (
      if (p.1 13 19 (v6).toNatClampNeg) = (cn 4) then (
        if (p.1 13 15 (v6).toNatClampNeg) = v1 then (
          if (p.1 13 16 (v6).toNatClampNeg) = v2 then (
            let p11 : PM := pI p 15 3 (v6).toNatClampNeg (cn 0)
            kv130 p11 v1 v2 v3 v4 v5 (v6 + (cn 1)))
          else (
            let p12 : PM := pI p 15 3 (v6).toNatClampNeg (cn 1)
            kv130 p12 v1 v2 v3 v4 v5 (v6 + (cn 1))))
        else (
          let p10 : PM := pI p 15 3 (v6).toNatClampNeg (cn 1)
          kv130 p10 v1 v2 v3 v4 v5 (v6 + (cn 1))))
      else (
        let p9 : PM := pI p 15 3 (v6).toNatClampNeg (cn 1)
        kv130 p9 v1 v2 v3 v4 v5 (v6 + (cn 1)))))
  else (
    let p1 : PM := pI p 13 4 (v1).toNatClampNeg (cn 0)
    let p2 : PM := pI p1 15 1 (v1).toNatClampNeg (cn 0)
    let r3 : Int32 × PM := F224 p2 v1 v2 v5 v3 (cn 0) (cn 4) (p2.1 12 1 18)
    let p4 : PM := F257 r3.2 r3.1
    if (p4.1 15 1 (v1).toNatClampNeg) = 0 then (
      let r5 : Int32 × PM := F224 p4 v1 v2 (-v5) v4 (cn 0) (cn 4) (p4.1 12 1 18)
      let p6 : PM := F257 r5.2 r5.1
      ((p2.1 12 1 39), p6))
    else (
      let p7 : PM := pI p4 12 1 39 ((p4.1 12 1 39) + (cn 1))
      ((p2.1 12 1 39), p7)))
noncomputable def v12_doQuote_130 (n : Nat) : PM → Int32 → Int32 → Int32 → Int32 → Int32 → Int32 → Int32 × PM := Nat.rec (motive := fun _ => PM → Int32 → Int32 → Int32 → Int32 → Int32 → Int32 → Int32 × PM) (fun p _ _ _ _ _ _ => (0, p)) (fun _ ih => bv12_doQuote_130 v12_newOrder v12_enters ih) n
theorem ev12_doQuote_130 (n : Nat) (p : PM) (v1 : Int32) (v2 : Int32) (v3 : Int32) (v4 : Int32) (v5 : Int32) (v6 : Int32) : v12_doQuote_130 (n + 1) p v1 v2 v3 v4 v5 v6 = bv12_doQuote_130 v12_newOrder v12_enters (v12_doQuote_130 n) p v1 v2 v3 v4 v5 v6 := rfl
noncomputable def bg12_doQuote_130 (F224 : PM → Int32 → Int32 → Int32 → Int32 → Int32 → Int32 → Int32 → Int32 × PM) (G224 : PM → Int32 → Int32 → Int32 → Int32 → Int32 → Int32 → Int32 → Prop) (F257 : PM → Int32 → PM) (G257 : PM → Int32 → Prop) (kg130 : PM → Int32 → Int32 → Int32 → Int32 → Int32 → Int32 → Prop) (p : PM) (v1 : Int32) (v2 : Int32) (v3 : Int32) (v4 : Int32) (v5 : Int32) (v6 : Int32) : Prop :=
  if v6 < (cn 44) then (
    (inb v6 44) ∧ (
    if (p.1 15 3 (v6).toNatClampNeg) = 0 then (
      (inb v6 44) ∧ (
      let p8 : PM := pI p 15 3 (v6).toNatClampNeg (cn 0)
      kg130 p8 v1 v2 v3 v4 v5 (v6 + (cn 1))))
    else (
      (inb v6 44) ∧ (
      if (p.1 13 19 (v6).toNatClampNeg) = (cn 4) then (
        (inb v6 44) ∧ (
        if (p.1 13 15 (v6).toNatClampNeg) = v1 then (
          (inb v6 44) ∧ (
          if (p.1 13 16 (v6).toNatClampNeg) = v2 then (
            (inb v6 44) ∧ (
            let p11 : PM := pI p 15 3 (v6).toNatClampNeg (cn 0)
            kg130 p11 v1 v2 v3 v4 v5 (v6 + (cn 1))))
          else (
            (inb v6 44) ∧ (
            let p12 : PM := pI p 15 3 (v6).toNatClampNeg (cn 1)
            kg130 p12 v1 v2 v3 v4 v5 (v6 + (cn 1))))))
        else (
          (inb v6 44) ∧ (
          let p10 : PM := pI p 15 3 (v6).toNatClampNeg (cn 1)
          kg130 p10 v1 v2 v3 v4 v5 (v6 + (cn 1))))))
      else (
        (inb v6 44) ∧ (
        let p9 : PM := pI p 15 3 (v6).toNatClampNeg (cn 1)
        kg130 p9 v1 v2 v3 v4 v5 (v6 + (cn 1))))))))
  else (
    (inb v1 8) ∧ (
    let p1 : PM := pI p 13 4 (v1).toNatClampNeg (cn 0)
    (inb v1 8) ∧ (
    let p2 : PM := pI p1 15 1 (v1).toNatClampNeg (cn 0)
    (G224 p2 v1 v2 v5 v3 (cn 0) (cn 4) (p2.1 12 1 18)) ∧ (
    let r3 : Int32 × PM := F224 p2 v1 v2 v5 v3 (cn 0) (cn 4) (p2.1 12 1 18)
    (G257 r3.2 r3.1) ∧ (
    let p4 : PM := F257 r3.2 r3.1
    (inb v1 8) ∧ (
    if (p4.1 15 1 (v1).toNatClampNeg) = 0 then (
      (G224 p4 v1 v2 (-v5) v4 (cn 0) (cn 4) (p4.1 12 1 18)) ∧ (
      let r5 : Int32 × PM := F224 p4 v1 v2 (-v5) v4 (cn 0) (cn 4) (p4.1 12 1 18)
      (G257 r5.2 r5.1) ∧ (
      let p6 : PM := F257 r5.2 r5.1
      True)))
    else (
      let p7 : PM := pI p4 12 1 39 ((p4.1 12 1 39) + (cn 1))
      True)))))))
noncomputable def g12_doQuote_130 (n : Nat) : PM → Int32 → Int32 → Int32 → Int32 → Int32 → Int32 → Prop := Nat.rec (motive := fun _ => PM → Int32 → Int32 → Int32 → Int32 → Int32 → Int32 → Prop) (fun _ _ _ _ _ _ _ => False) (fun _ ih => bg12_doQuote_130 v12_newOrder g12_newOrder v12_enters g12_enters ih) n
theorem eg12_doQuote_130 (n : Nat) (p : PM) (v1 : Int32) (v2 : Int32) (v3 : Int32) (v4 : Int32) (v5 : Int32) (v6 : Int32) : g12_doQuote_130 (n + 1) p v1 v2 v3 v4 v5 v6 = bg12_doQuote_130 v12_newOrder g12_newOrder v12_enters g12_enters (g12_doQuote_130 n) p v1 v2 v3 v4 v5 v6 := rfl
noncomputable def bv12_doQuote_60 (F222 : PM → Int32) (F231 : PM → Int32 → Int32 → Int32 → Int32) (kv130 : PM → Int32 → Int32 → Int32 → Int32 → Int32 → Int32 → Int32 × PM) (p : PM) (v1 : Int32) (v2 : Int32) (v3 : Int32) (v4 : Int32) (v5 : Int32) (s0 : Int32) : Int32 × PM :=
  let p1 : PM := pI p 12 1 0 s0
  if (p1.1 12 1 0) = 0 then (
    if (p1.1 15 9 ((v1 / (cn 2))).toNatClampNeg) = 0 then (
      if (cn 38) < (F222 p1) then (
        let p3 : PM := pI p1 12 1 0 (cn 3)
        if (p3.1 12 1 0) = 0 then (
          kv130 p3 v1 v2 v3 v4 v5 (cn 0))
        else (
          ((cn 0), p3)))
      else (
        if (F231 p1 v1 v2 v5) = 0 then (
          if (F231 p1 v1 v2 (-v5)) = 0 then (
            if (p1.1 12 1 0) = 0 then (
              kv130 p1 v1 v2 v3 v4 v5 (cn 0))
            else (
              ((cn 0), p1)))
          else (
            let p5 : PM := pI p1 12 1 0 (cn 3)
            if (p5.1 12 1 0) = 0 then (
              kv130 p5 v1 v2 v3 v4 v5 (cn 0))
            else (
              ((cn 0), p5))))
        else (
          let p4 : PM := pI p1 12 1 0 (cn 3)
          if (p4.1 12 1 0) = 0 then (
            kv130 p4 v1 v2 v3 v4 v5 (cn 0))
          else (
            ((cn 0), p4)))))
    else (
      let p2 : PM := pI p1 12 1 0 (cn 3)
      if (p2.1 12 1 0) = 0 then (
        kv130 p2 v1 v2 v3 v4 v5 (cn 0))
      else (
        ((cn 0), p2))))
  else (
    if (p1.1 12 1 0) = 0 then (
      kv130 p1 v1 v2 v3 v4 v5 (cn 0))
    else (
      ((cn 0), p1)))
noncomputable def v12_doQuote_60 (p : PM) (v1 : Int32) (v2 : Int32) (v3 : Int32) (v4 : Int32) (v5 : Int32) (s0 : Int32) : Int32 × PM := bv12_doQuote_60 v12_live v12_isRefused (v12_doQuote_130 FU) p v1 v2 v3 v4 v5 s0
noncomputable def bg12_doQuote_60 (F222 : PM → Int32) (G222 : PM → Prop) (F231 : PM → Int32 → Int32 → Int32 → Int32) (G231 : PM → Int32 → Int32 → Int32 → Prop) (kg130 : PM → Int32 → Int32 → Int32 → Int32 → Int32 → Int32 → Prop) (p : PM) (v1 : Int32) (v2 : Int32) (v3 : Int32) (v4 : Int32) (v5 : Int32) (s0 : Int32) : Prop :=
  let p1 : PM := pI p 12 1 0 s0
  if (p1.1 12 1 0) = 0 then (
    (inb (v1 / (cn 2)) 4) ∧ (
    if (p1.1 15 9 ((v1 / (cn 2))).toNatClampNeg) = 0 then (
      (G222 p1) ∧ (
      if (cn 38) < (F222 p1) then (
        let p3 : PM := pI p1 12 1 0 (cn 3)
        if (p3.1 12 1 0) = 0 then (
          kg130 p3 v1 v2 v3 v4 v5 (cn 0))
        else (
          True))
      else (
        (G231 p1 v1 v2 v5) ∧ (
        if (F231 p1 v1 v2 v5) = 0 then (
          (G231 p1 v1 v2 (-v5)) ∧ (
          if (F231 p1 v1 v2 (-v5)) = 0 then (
            if (p1.1 12 1 0) = 0 then (
              kg130 p1 v1 v2 v3 v4 v5 (cn 0))
            else (
              True))
          else (
            let p5 : PM := pI p1 12 1 0 (cn 3)
            if (p5.1 12 1 0) = 0 then (
              kg130 p5 v1 v2 v3 v4 v5 (cn 0))
            else (
              True))))
        else (
          let p4 : PM := pI p1 12 1 0 (cn 3)
          if (p4.1 12 1 0) = 0 then (
            kg130 p4 v1 v2 v3 v4 v5 (cn 0))
          else (
            True))))))
    else (
      let p2 : PM := pI p1 12 1 0 (cn 3)
      if (p2.1 12 1 0) = 0 then (
        kg130 p2 v1 v2 v3 v4 v5 (cn 0))
      else (
        True))))
  else (
    if (p1.1 12 1 0) = 0 then (
      kg130 p1 v1 v2 v3 v4 v5 (cn 0))
    else (
      True))
noncomputable def g12_doQuote_60 (p : PM) (v1 : Int32) (v2 : Int32) (v3 : Int32) (v4 : Int32) (v5 : Int32) (s0 : Int32) : Prop := bg12_doQuote_60 v12_live g12_live v12_isRefused g12_isRefused (g12_doQuote_130 FU) p v1 v2 v3 v4 v5 s0
noncomputable def bv12_doQuote (F215 : PM → Int32 → Int32 → Int32 → Int32) (F219 : PM → Int32 → Int32 → Int32) (F280 : PM → Int32 → Int32) (kv60 : PM → Int32 → Int32 → Int32 → Int32 → Int32 → Int32 → Int32 × PM) (p : PM) (v1 : Int32) (v2 : Int32) (v3 : Int32) (v4 : Int32) (v5 : Int32) : Int32 × PM :=
  if (F280 p v1) = 0 then (
    kv60 p v1 v2 v3 v4 v5 (cn 1))
  else (
    if (F215 p v2 (cn 0) (cn 5)) = 0 then (
      kv60 p v1 v2 v3 v4 v5 (cn 1))
    else (
      if (F219 p v2 v3) = 0 then (
        kv60 p v1 v2 v3 v4 v5 (cn 2))
      else (
        if (F219 p v2 v4) = 0 then (
          kv60 p v1 v2 v3 v4 v5 (cn 2))
        else (
          if v3 < v4 then (
            if (F215 p v5 (cn 1) (cn 50)) = 0 then (
              kv60 p v1 v2 v3 v4 v5 (cn 2))
            else (
              kv60 p v1 v2 v3 v4 v5 (cn 0)))
          else (
            kv60 p v1 v2 v3 v4 v5 (cn 2))))))
noncomputable def v12_doQuote (p : PM) (v1 : Int32) (v2 : Int32) (v3 : Int32) (v4 : Int32) (v5 : Int32) : Int32 × PM := bv12_doQuote v12_in v12_isPrice v12_isAccount v12_doQuote_60 p v1 v2 v3 v4 v5
noncomputable def bg12_doQuote (F215 : PM → Int32 → Int32 → Int32 → Int32) (G215 : PM → Int32 → Int32 → Int32 → Prop) (F219 : PM → Int32 → Int32 → Int32) (G219 : PM → Int32 → Int32 → Prop) (F280 : PM → Int32 → Int32) (G280 : PM → Int32 → Prop) (kg60 : PM → Int32 → Int32 → Int32 → Int32 → Int32 → Int32 → Prop) (p : PM) (v1 : Int32) (v2 : Int32) (v3 : Int32) (v4 : Int32) (v5 : Int32) : Prop :=
  (G280 p v1) ∧ (
  if (F280 p v1) = 0 then (
    kg60 p v1 v2 v3 v4 v5 (cn 1))
  else (
    (G215 p v2 (cn 0) (cn 5)) ∧ (
    if (F215 p v2 (cn 0) (cn 5)) = 0 then (
      kg60 p v1 v2 v3 v4 v5 (cn 1))
    else (
      (G219 p v2 v3) ∧ (
      if (F219 p v2 v3) = 0 then (
        kg60 p v1 v2 v3 v4 v5 (cn 2))
      else (
        (G219 p v2 v4) ∧ (
        if (F219 p v2 v4) = 0 then (
          kg60 p v1 v2 v3 v4 v5 (cn 2))
        else (
          if v3 < v4 then (
            (G215 p v5 (cn 1) (cn 50)) ∧ (
            if (F215 p v5 (cn 1) (cn 50)) = 0 then (
              kg60 p v1 v2 v3 v4 v5 (cn 2))
            else (
              kg60 p v1 v2 v3 v4 v5 (cn 0))))
          else (
            kg60 p v1 v2 v3 v4 v5 (cn 2))))))))))
