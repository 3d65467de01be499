/-! the reference as functions, a ghost beside the class (text of wip/whole/lift.py, chosen by wip/p50/ghost.py) -/
noncomputable def g12_chains_316 (p : PM) (v1 : Int32) (v2 : Int32) (v3 : Int32) (v4 : Int32) (v5 : Int32) (v6 : Int32) (v7 : Int32) (v8 : Int32) (v10 : Int32) (s0 : Int32) : Prop := bg12_chains_316 v12_deals g12_deals g12_chains_364 p v1 v2 v3 v4 v5 v6 v7 v8 v10 s0
noncomputable def bv12_chains_154 (F226 : PM → Int32 → Int32) (F244 : PM → Int32 → Int32 → Int32) (F260 : PM → Int32 → Int32 → Int32 → Int32 → Int32) (kv248 : PM → Int32 → Int32 → Int32 → Int32 → Int32 → Int32 → Int32 → Int32 → Int32 × PM) (kv316 : PM → Int32 → Int32 → Int32 → Int32 → Int32 → Int32 → Int32 → Int32 → Int32 → Int32 → Int32 × PM) (p : PM) (v1 : Int32) (v2 : Int32) (v3 : Int32) (v4 : Int32) (v5 : Int32) (v6 : Int32) (v7 : Int32) (v8 : Int32) (s0 : Int32) : Int32 × PM :=
  if s0 = 0 then (
    kv248 p v1 v2 v3 v4 v5 v6 v7 v8)
  else (
    if v1 = 0 then (
      if (F260 p (cn 0) v4 v2 v6) = 0 then (
        kv248 p v1 v2 v3 v4 v5 v6 v7 v8)
      else (
        if (F260 p (cn 1) v2 v3 v8) = 0 then (
          kv248 p v1 v2 v3 v4 v5 v6 v7 v8)
        else (
          if (F260 p (cn 2) v3 v5 v7) = 0 then (
            kv248 p v1 v2 v3 v4 v5 v6 v7 v8)
          else (
            let x1 : Int32 := (F244 p (F244 p (F226 p v2) (F226 p v3)) (F244 p (F226 p v4) (F226 p v5)))
            if v1 = 0 then (
              kv316 p v1 v2 v3 v4 v5 v6 v7 v8 x1 (p.1 13 15 (v4).toNatClampNeg))
            else (
              kv316 p v1 v2 v3 v4 v5 v6 v7 v8 x1 (p.1 13 15 (v2).toNatClampNeg))))))
    else (
      if (F260 p (cn 0) v2 v4 v6) = 0 then (
        kv248 p v1 v2 v3 v4 v5 v6 v7 v8)
      else (
        if (F260 p (cn 1) v3 v2 v8) = 0 then (
          kv248 p v1 v2 v3 v4 v5 v6 v7 v8)
        else (
          if (F260 p (cn 2) v5 v3 v7) = 0 then (
            kv248 p v1 v2 v3 v4 v5 v6 v7 v8)
          else (
            let x2 : Int32 := (F244 p (F244 p (F226 p v2) (F226 p v3)) (F244 p (F226 p v4) (F226 p v5)))
            if v1 = 0 then (
              kv316 p v1 v2 v3 v4 v5 v6 v7 v8 x2 (p.1 13 15 (v4).toNatClampNeg))
            else (
              kv316 p v1 v2 v3 v4 v5 v6 v7 v8 x2 (p.1 13 15 (v2).toNatClampNeg)))))))
noncomputable def v12_chains_154 (p : PM) (v1 : Int32) (v2 : Int32) (v3 : Int32) (v4 : Int32) (v5 : Int32) (v6 : Int32) (v7 : Int32) (v8 : Int32) (s0 : Int32) : Int32 × PM := bv12_chains_154 v12_showsNow v12_least v12_canDeal v12_chains_248 v12_chains_316 p v1 v2 v3 v4 v5 v6 v7 v8 s0
noncomputable def bg12_chains_154 (F226 : PM → Int32 → Int32) (G226 : PM → Int32 → Prop) (F244 : PM → Int32 → Int32 → Int32) (G244 : PM → Int32 → Int32 → Prop) (F260 : PM → Int32 → Int32 → Int32 → Int32 → Int32) (G260 : PM → Int32 → Int32 → Int32 → Int32 → Prop) (kg248 : PM → Int32 → Int32 → Int32 → Int32 → Int32 → Int32 → Int32 → Int32 → Prop) (kg316 : PM → Int32 → Int32 → Int32 → Int32 → Int32 → Int32 → Int32 → Int32 → Int32 → Int32 → Prop) (p : PM) (v1 : Int32) (v2 : Int32) (v3 : Int32) (v4 : Int32) (v5 : Int32) (v6 : Int32) (v7 : Int32) (v8 : Int32) (s0 : Int32) : Prop :=
  if s0 = 0 then (
    kg248 p v1 v2 v3 v4 v5 v6 v7 v8)
  else (
    if v1 = 0 then (
      (G260 p (cn 0) v4 v2 v6) ∧ (
      if (F260 p (cn 0) v4 v2 v6) = 0 then (
        kg248 p v1 v2 v3 v4 v5 v6 v7 v8)
      else (
        (G260 p (cn 1) v2 v3 v8) ∧ (
        if (F260 p (cn 1) v2 v3 v8) = 0 then (
          kg248 p v1 v2 v3 v4 v5 v6 v7 v8)
        else (
          (G260 p (cn 2) v3 v5 v7) ∧ (
          if (F260 p (cn 2) v3 v5 v7) = 0 then (
            kg248 p v1 v2 v3 v4 v5 v6 v7 v8)
          else (
            (G226 p v2) ∧ (
            (G226 p v3) ∧ (
            (G244 p (F226 p v2) (F226 p v3)) ∧ (
            (G226 p v4) ∧ (
            (G226 p v5) ∧ (
            (G244 p (F226 p v4) (F226 p v5)) ∧ (
            (G244 p (F244 p (F226 p v2) (F226 p v3)) (F244 p (F226 p v4) (F226 p v5))) ∧ (
            let x1 : Int32 := (F244 p (F244 p (F226 p v2) (F226 p v3)) (F244 p (F226 p v4) (F226 p v5)))
            if v1 = 0 then (
              (inb v4 44) ∧ (
              kg316 p v1 v2 v3 v4 v5 v6 v7 v8 x1 (p.1 13 15 (v4).toNatClampNeg)))
            else (
              (inb v2 44) ∧ (
              kg316 p v1 v2 v3 v4 v5 v6 v7 v8 x1 (p.1 13 15 (v2).toNatClampNeg)))))))))))))))))
    else (
      (G260 p (cn 0) v2 v4 v6) ∧ (
      if (F260 p (cn 0) v2 v4 v6) = 0 then (
        kg248 p v1 v2 v3 v4 v5 v6 v7 v8)
      else (
        (G260 p (cn 1) v3 v2 v8) ∧ (
        if (F260 p (cn 1) v3 v2 v8) = 0 then (
          kg248 p v1 v2 v3 v4 v5 v6 v7 v8)
        else (
          (G260 p (cn 2) v5 v3 v7) ∧ (
          if (F260 p (cn 2) v5 v3 v7) = 0 then (
            kg248 p v1 v2 v3 v4 v5 v6 v7 v8)
          else (
            (G226 p v2) ∧ (
            (G226 p v3) ∧ (
            (G244 p (F226 p v2) (F226 p v3)) ∧ (
            (G226 p v4) ∧ (
            (G226 p v5) ∧ (
            (G244 p (F226 p v4) (F226 p v5)) ∧ (
            (G244 p (F244 p (F226 p v2) (F226 p v3)) (F244 p (F226 p v4) (F226 p v5))) ∧ (
            let x2 : Int32 := (F244 p (F244 p (F226 p v2) (F226 p v3)) (F244 p (F226 p v4) (F226 p v5)))
            if v1 = 0 then (
              (inb v4 44) ∧ (
              kg316 p v1 v2 v3 v4 v5 v6 v7 v8 x2 (p.1 13 15 (v4).toNatClampNeg)))
            else (
              (inb v2 44) ∧ (
              kg316 p v1 v2 v3 v4 v5 v6 v7 v8 x2 (p.1 13 15 (v2).toNatClampNeg))))))))))))))))))
noncomputable def g12_chains_154 (p : PM) (v1 : Int32) (v2 : Int32) (v3 : Int32) (v4 : Int32) (v5 : Int32) (v6 : Int32) (v7 : Int32) (v8 : Int32) (s0 : Int32) : Prop := bg12_chains_154 v12_showsNow g12_showsNow v12_least g12_least v12_canDeal g12_canDeal g12_chains_248 g12_chains_316 p v1 v2 v3 v4 v5 v6 v7 v8 s0
noncomputable def bv12_chains_25 (F218 : PM → Int32 → Int32) (F259 : PM → Int32 → Int32 → Int32) (kv64 : PM → Int32 × PM) (kv154 : PM → Int32 → Int32 → Int32 → Int32 → Int32 → Int32 → Int32 → Int32 → Int32 → Int32 × PM) (p : PM) (v1 : Int32) (v2 : Int32) (v3 : Int32) (s0 : Int32) : Int32 × PM :=
  let x1 : Int32 := (F259 p (cn 0) s0)
  let x2 : Int32 := (F259 p (cn 2) v1)
  if v2 < 0 then (
    kv64 p)
  else (
    if v3 < 0 then (
      kv64 p)
    else (
      if x1 < 0 then (
        kv64 p)
      else (
        if x2 < 0 then (
          kv64 p)
        else (
          if (F218 p (cn 1)) = 0 then (
            kv64 p)
          else (
            let x3 : Int32 := (p.1 13 25 (x1).toNatClampNeg)
            let x4 : Int32 := (p.1 13 25 (x2).toNatClampNeg)
            let x5 : Int32 := ((p.1 13 25 (v3).toNatClampNeg) + x4)
            if v1 = 0 then (
              if (x3 - x4) < ((p.1 13 25 (v2).toNatClampNeg) + (p.1 13 25 (v3).toNatClampNeg)) then (
                kv154 p v1 v2 v3 x1 x2 x3 x4 x5 (cn 0))
              else (
                kv154 p v1 v2 v3 x1 x2 x3 x4 x5 (cn 1)))
            else (
              if ((p.1 13 25 (v2).toNatClampNeg) + (p.1 13 25 (v3).toNatClampNeg)) < (x3 - x4) then (
                kv154 p v1 v2 v3 x1 x2 x3 x4 x5 (cn 0))
              else (
                kv154 p v1 v2 v3 x1 x2 x3 x4 x5 (cn 1))))))))
noncomputable def v12_chains_25 (p : PM) (v1 : Int32) (v2 : Int32) (v3 : Int32) (s0 : Int32) : Int32 × PM := bv12_chains_25 v12_isOpen v12_firstOf v12_chains_64 v12_chains_154 p v1 v2 v3 s0
noncomputable def bg12_chains_25 (F218 : PM → Int32 → Int32) (G218 : PM → Int32 → Prop) (F259 : PM → Int32 → Int32 → Int32) (G259 : PM → Int32 → Int32 → Prop) (kg64 : PM → Prop) (kg154 : PM → Int32 → Int32 → Int32 → Int32 → Int32 → Int32 → Int32 → Int32 → Int32 → Prop) (p : PM) (v1 : Int32) (v2 : Int32) (v3 : Int32) (s0 : Int32) : Prop :=
  (G259 p (cn 0) s0) ∧ (
  let x1 : Int32 := (F259 p (cn 0) s0)
  (G259 p (cn 2) v1) ∧ (
  let x2 : Int32 := (F259 p (cn 2) v1)
  if v2 < 0 then (
    kg64 p)
  else (
    if v3 < 0 then (
      kg64 p)
    else (
      if x1 < 0 then (
        kg64 p)
      else (
        if x2 < 0 then (
          kg64 p)
        else (
          (G218 p (cn 1)) ∧ (
          if (F218 p (cn 1)) = 0 then (
            kg64 p)
          else (
            (inb x1 44) ∧ (
            let x3 : Int32 := (p.1 13 25 (x1).toNatClampNeg)
            (inb x2 44) ∧ (
            let x4 : Int32 := (p.1 13 25 (x2).toNatClampNeg)
            (inb v3 44) ∧ (
            let x5 : Int32 := ((p.1 13 25 (v3).toNatClampNeg) + x4)
            if v1 = 0 then (
              (inb v2 44) ∧ (
              (inb v3 44) ∧ (
              if (x3 - x4) < ((p.1 13 25 (v2).toNatClampNeg) + (p.1 13 25 (v3).toNatClampNeg)) then (
                kg154 p v1 v2 v3 x1 x2 x3 x4 x5 (cn 0))
              else (
                kg154 p v1 v2 v3 x1 x2 x3 x4 x5 (cn 1)))))
            else (
              (inb v2 44) ∧ (
              (inb v3 44) ∧ (
              if ((p.1 13 25 (v2).toNatClampNeg) + (p.1 13 25 (v3).toNatClampNeg)) < (x3 - x4) then (
                kg154 p v1 v2 v3 x1 x2 x3 x4 x5 (cn 0))
              else (
                kg154 p v1 v2 v3 x1 x2 x3 x4 x5 (cn 1))))))))))))))))
noncomputable def g12_chains_25 (p : PM) (v1 : Int32) (v2 : Int32) (v3 : Int32) (s0 : Int32) : Prop := bg12_chains_25 v12_isOpen g12_isOpen v12_firstOf g12_firstOf g12_chains_64 g12_chains_154 p v1 v2 v3 s0
noncomputable def bv12_chains (F259 : PM → Int32 → Int32 → Int32) (kv25 : PM → Int32 → Int32 → Int32 → Int32 → Int32 × PM) (p : PM) (v1 : Int32) : Int32 × PM :=
  let x1 : Int32 := (F259 p (cn 4) v1)
  let x2 : Int32 := (F259 p (cn 5) v1)
  if v1 = 0 then (
    kv25 p v1 x1 x2 (cn 1))
  else (
    kv25 p v1 x1 x2 (cn 0))
noncomputable def v12_chains (p : PM) (v1 : Int32) : Int32 × PM := bv12_chains v12_firstOf v12_chains_25 p v1
noncomputable def bg12_chains (F259 : PM → Int32 → Int32 → Int32) (G259 : PM → Int32 → Int32 → Prop) (kg25 : PM → Int32 → Int32 → Int32 → Int32 → Prop) (p : PM) (v1 : Int32) : Prop :=
  (G259 p (cn 4) v1) ∧ (
  let x1 : Int32 := (F259 p (cn 4) v1)
  (G259 p (cn 5) v1) ∧ (
  let x2 : Int32 := (F259 p (cn 5) v1)
  if v1 = 0 then (
    kg25 p v1 x1 x2 (cn 1))
  else (
    kg25 p v1 x1 x2 (cn 0))))
noncomputable def g12_chains (p : PM) (v1 : Int32) : Prop := bg12_chains v12_firstOf g12_firstOf g12_chains_25 p v1
noncomputable def bv12_combines (F262 : PM → Int32 → Int32 → Int32 × PM) (F263 : PM → Int32 → Int32 × PM) (p : PM) : Int32 × PM :=
  let r1 : Int32 × PM := F262 p (cn 4) (cn 1)
  if r1.1 = 0 then (
    let r2 : Int32 × PM := F262 r1.2 (cn 4) (cn 0)
    if r2.1 = 0 then (
      let r3 : Int32 × PM := F262 r2.2 (cn 5) (cn 1)
      if r3.1 = 0 then (
        let r4 : Int32 × PM := F262 r3.2 (cn 5) (cn 0)
        if r4.1 = 0 then (
          let r5 : Int32 × PM := F263 r4.2 (cn 1)
          if r5.1 = 0 then (
            let r6 : Int32 × PM := F263 r5.2 (cn 0)
            if r6.1 = 0 then (
              ((cn 0), r6.2))
            else (
              ((cn 1), r6.2)))
          else (
            ((cn 1), r5.2)))
        else (
          ((cn 1), r4.2)))
      else (
        ((cn 1), r3.2)))
    else (
      ((cn 1), r2.2)))
  else (
    ((cn 1), r1.2))
noncomputable def v12_combines (p : PM) : Int32 × PM := bv12_combines v12_joins v12_chains p
noncomputable def bg12_combines (F262 : PM → Int32 → Int32 → Int32 × PM) (G262 : PM → Int32 → Int32 → Prop) (F263 : PM → Int32 → Int32 × PM) (G263 : PM → Int32 → Prop) (p : PM) : Prop :=
  (G262 p (cn 4) (cn 1)) ∧ (
  let r1 : Int32 × PM := F262 p (cn 4) (cn 1)
  if r1.1 = 0 then (
    (G262 r1.2 (cn 4) (cn 0)) ∧ (
    let r2 : Int32 × PM := F262 r1.2 (cn 4) (cn 0)
    if r2.1 = 0 then (
      (G262 r2.2 (cn 5) (cn 1)) ∧ (
      let r3 : Int32 × PM := F262 r2.2 (cn 5) (cn 1)
      if r3.1 = 0 then (
        (G262 r3.2 (cn 5) (cn 0)) ∧ (
        let r4 : Int32 × PM := F262 r3.2 (cn 5) (cn 0)
        if r4.1 = 0 then (
          (G263 r4.2 (cn 1)) ∧ (
          let r5 : Int32 × PM := F263 r4.2 (cn 1)
          if r5.1 = 0 then (
            (G263 r5.2 (cn 0)) ∧ (
            let r6 : Int32 × PM := F263 r5.2 (cn 0)
            if r6.1 = 0 then (
              True)
            else (
              True)))
          else (
            True)))
        else (
          True)))
      else (
        True)))
    else (
      True)))
  else (
    True))
noncomputable def g12_combines (p : PM) : Prop := bg12_combines v12_joins g12_joins v12_chains g12_chains p
noncomputable def bv12_pegs_110 (F219 : PM → Int32 → Int32 → Int32) (F225 : PM → Int32 → PM) (p : PM) (v1 : Int32) (v2 : Int32) (v4 : Int32) : PM :=
  if v4 = (cn (-100000)) then (
    let p1 : PM := pI p 13 24 (v1).toNatClampNeg (cn 2)
    p1)
  else (
    if (F219 p v2 v4) = 0 then (
      let p8 : PM := pI p 13 24 (v1).toNatClampNeg (cn 2)
      p8)
    else (
      if (p.1 13 24 (v1).toNatClampNeg) = (cn 1) then (
        if (p.1 13 25 (v1).toNatClampNeg) = v4 then (
          p)
        else (
          let p5 : PM := pI p 13 24 (v1).toNatClampNeg (cn 1)
          let p6 : PM := pI p5 13 25 (v1).toNatClampNeg v4
          let p7 : PM := F225 p6 v1
          p7))
      else (
        let p2 : PM := pI p 13 24 (v1).toNatClampNeg (cn 1)
        let p3 : PM := pI p2 13 25 (v1).toNatClampNeg v4
        let p4 : PM := F225 p3 v1
        p4)))
noncomputable def v12_pegs_110 (p : PM) (v1 : Int32) (v2 : Int32) (v4 : Int32) : PM := bv12_pegs_110 v12_isPrice v12_newTurn p v1 v2 v4
noncomputable def bg12_pegs_110 (F219 : PM → Int32 → Int32 → Int32) (G219 : PM → Int32 → Int32 → Prop) (F225 : PM → Int32 → PM) (G225 : PM → Int32 → Prop) (p : PM) (v1 : Int32) (v2 : Int32) (v4 : Int32) : Prop :=
  if v4 = (cn (-100000)) then (
    (inb v1 44) ∧ (
    let p1 : PM := pI p 13 24 (v1).toNatClampNeg (cn 2)
    True))
  else (
    (G219 p v2 v4) ∧ (
    if (F219 p v2 v4) = 0 then (
      (inb v1 44) ∧ (
      let p8 : PM := pI p 13 24 (v1).toNatClampNeg (cn 2)
      True))
    else (
      (inb v1 44) ∧ (
      if (p.1 13 24 (v1).toNatClampNeg) = (cn 1) then (
        (inb v1 44) ∧ (
        if (p.1 13 25 (v1).toNatClampNeg) = v4 then (
          True)
        else (
          (inb v1 44) ∧ (
          let p5 : PM := pI p 13 24 (v1).toNatClampNeg (cn 1)
          (inb v1 44) ∧ (
          let p6 : PM := pI p5 13 25 (v1).toNatClampNeg v4
          (G225 p6 v1) ∧ (
          let p7 : PM := F225 p6 v1
          True))))))
      else (
        (inb v1 44) ∧ (
        let p2 : PM := pI p 13 24 (v1).toNatClampNeg (cn 1)
        (inb v1 44) ∧ (
        let p3 : PM := pI p2 13 25 (v1).toNatClampNeg v4
        (G225 p3 v1) ∧ (
        let p4 : PM := F225 p3 v1
        True))))))))
noncomputable def g12_pegs_110 (p : PM) (v1 : Int32) (v2 : Int32) (v4 : Int32) : Prop := bg12_pegs_110 v12_isPrice g12_isPrice v12_newTurn g12_newTurn p v1 v2 v4
noncomputable def bv12_pegs_72 (F219 : PM → Int32 → Int32 → Int32) (F225 : PM → Int32 → PM) (F239 : PM → Int32 → Int32 → Int32 → Int32) (kv110 : PM → Int32 → Int32 → Int32 → PM) (p : PM) (v1 : Int32) (v2 : Int32) (s0 : Int32) : PM :=
  if s0 = (cn (-100000)) then (
    kv110 p v1 v2 s0)
  else (
    if (F239 p s0 (p.1 13 18 (v1).toNatClampNeg) (p.1 15 4 (v1).toNatClampNeg)) = 0 then (
      kv110 p v1 v2 s0)
    else (
      let x1 : Int32 := (p.1 13 18 (v1).toNatClampNeg)
      if x1 = (cn (-100000)) then (
        let p2 : PM := pI p 13 24 (v1).toNatClampNeg (cn 2)
        p2)
      else (
        if (F219 p v2 x1) = 0 then (
          let p9 : PM := pI p 13 24 (v1).toNatClampNeg (cn 2)
          p9)
        else (
          if (p.1 13 24 (v1).toNatClampNeg) = (cn 1) then (
            if (p.1 13 25 (v1).toNatClampNeg) = x1 then (
              p)
            else (
              let p6 : PM := pI p 13 24 (v1).toNatClampNeg (cn 1)
              let p7 : PM := pI p6 13 25 (v1).toNatClampNeg x1
              let p8 : PM := F225 p7 v1
              p8))
          else (
            let p3 : PM := pI p 13 24 (v1).toNatClampNeg (cn 1)
            let p4 : PM := pI p3 13 25 (v1).toNatClampNeg x1
            let p5 : PM := F225 p4 v1
            p5)))))
noncomputable def v12_pegs_72 (p : PM) (v1 : Int32) (v2 : Int32) (s0 : Int32) : PM := bv12_pegs_72 v12_isPrice v12_newTurn v12_isBetter v12_pegs_110 p v1 v2 s0
noncomputable def bg12_pegs_72 (F219 : PM → Int32 → Int32 → Int32) (G219 : PM → Int32 → Int32 → Prop) (F225 : PM → Int32 → PM) (G225 : PM → Int32 → Prop) (F239 : PM → Int32 → Int32 → Int32 → Int32) (G239 : PM → Int32 → Int32 → Int32 → Prop) (kg110 : PM → Int32 → Int32 → Int32 → Prop) (p : PM) (v1 : Int32) (v2 : Int32) (s0 : Int32) : Prop :=
  if s0 = (cn (-100000)) then (
    kg110 p v1 v2 s0)
  else (
    (inb v1 44) ∧ (
    (inb v1 44) ∧ (
    (G239 p s0 (p.1 13 18 (v1).toNatClampNeg) (p.1 15 4 (v1).toNatClampNeg)) ∧ (
    if (F239 p s0 (p.1 13 18 (v1).toNatClampNeg) (p.1 15 4 (v1).toNatClampNeg)) = 0 then (
      kg110 p v1 v2 s0)
    else (
      (inb v1 44) ∧ (
      let x1 : Int32 := (p.1 13 18 (v1).toNatClampNeg)
      if x1 = (cn (-100000)) then (
        (inb v1 44) ∧ (
        let p2 : PM := pI p 13 24 (v1).toNatClampNeg (cn 2)
        True))
      else (
        (G219 p v2 x1) ∧ (
        if (F219 p v2 x1) = 0 then (
          (inb v1 44) ∧ (
          let p9 : PM := pI p 13 24 (v1).toNatClampNeg (cn 2)
          True))
        else (
          (inb v1 44) ∧ (
          if (p.1 13 24 (v1).toNatClampNeg) = (cn 1) then (
            (inb v1 44) ∧ (
            if (p.1 13 25 (v1).toNatClampNeg) = x1 then (
              True)
            else (
              (inb v1 44) ∧ (
              let p6 : PM := pI p 13 24 (v1).toNatClampNeg (cn 1)
              (inb v1 44) ∧ (
              let p7 : PM := pI p6 13 25 (v1).toNatClampNeg x1
              (G225 p7 v1) ∧ (
              let p8 : PM := F225 p7 v1
              True))))))
          else (
            (inb v1 44) ∧ (
            let p3 : PM := pI p 13 24 (v1).toNatClampNeg (cn 1)
            (inb v1 44) ∧ (
            let p4 : PM := pI p3 13 25 (v1).toNatClampNeg x1
            (G225 p4 v1) ∧ (
            let p5 : PM := F225 p4 v1
            True))))))))))))))
noncomputable def g12_pegs_72 (p : PM) (v1 : Int32) (v2 : Int32) (s0 : Int32) : Prop := bg12_pegs_72 v12_isPrice g12_isPrice v12_newTurn g12_newTurn v12_isBetter g12_isBetter g12_pegs_110 p v1 v2 s0
noncomputable def bv12_pegs (F218 : PM → Int32 → Int32) (F240 : PM → Int32 → Int32 → Int32 → Int32) (kv72 : PM → Int32 → Int32 → Int32 → PM) (p : PM) (v1 : Int32) : PM :=
  let x1 : Int32 := (p.1 13 16 (v1).toNatClampNeg)
  if (F218 p x1) = 0 then (
    if (cn (-100000)) = (cn (-100000)) then (
      kv72 p v1 x1 (cn (-100000)))
    else (
      if (p.1 15 4 (v1).toNatClampNeg) = 0 then (
        kv72 p v1 x1 ((cn (-100000)) + (p.1 13 26 (v1).toNatClampNeg)))
      else (
        kv72 p v1 x1 ((cn (-100000)) - (p.1 13 26 (v1).toNatClampNeg)))))
  else (
    let x2 : Int32 := (F240 p x1 (p.1 15 4 (v1).toNatClampNeg) (cn 0))
    if x2 = (cn (-100000)) then (
      kv72 p v1 x1 (cn (-100000)))
    else (
      if (p.1 15 4 (v1).toNatClampNeg) = 0 then (
        kv72 p v1 x1 (x2 + (p.1 13 26 (v1).toNatClampNeg)))
      else (
        kv72 p v1 x1 (x2 - (p.1 13 26 (v1).toNatClampNeg)))))
noncomputable def v12_pegs (p : PM) (v1 : Int32) : PM := bv12_pegs v12_isOpen v12_bestOf v12_pegs_72 p v1
noncomputable def bg12_pegs (F218 : PM → Int32 → Int32) (G218 : PM → Int32 → Prop) (F240 : PM → Int32 → Int32 → Int32 → Int32) (G240 : PM → Int32 → Int32 → Int32 → Prop) (kg72 : PM → Int32 → Int32 → Int32 → Prop) (p : PM) (v1 : Int32) : Prop :=
  (inb v1 44) ∧ (
  let x1 : Int32 := (p.1 13 16 (v1).toNatClampNeg)
  (G218 p x1) ∧ (
  if (F218 p x1) = 0 then (
    if (cn (-100000)) = (cn (-100000)) then (
      kg72 p v1 x1 (cn (-100000)))
    else (
      (inb v1 44) ∧ (
      if (p.1 15 4 (v1).toNatClampNeg) = 0 then (
        (inb v1 44) ∧ (
        kg72 p v1 x1 ((cn (-100000)) + (p.1 13 26 (v1).toNatClampNeg))))
      else (
        (inb v1 44) ∧ (
        kg72 p v1 x1 ((cn (-100000)) - (p.1 13 26 (v1).toNatClampNeg)))))))
  else (
    (inb v1 44) ∧ (
    (G240 p x1 (p.1 15 4 (v1).toNatClampNeg) (cn 0)) ∧ (
    let x2 : Int32 := (F240 p x1 (p.1 15 4 (v1).toNatClampNeg) (cn 0))
    if x2 = (cn (-100000)) then (
      kg72 p v1 x1 (cn (-100000)))
    else (
      (inb v1 44) ∧ (
      if (p.1 15 4 (v1).toNatClampNeg) = 0 then (
        (inb v1 44) ∧ (
        kg72 p v1 x1 (x2 + (p.1 13 26 (v1).toNatClampNeg))))
      else (
        (inb v1 44) ∧ (
        kg72 p v1 x1 (x2 - (p.1 13 26 (v1).toNatClampNeg)))))))))))
noncomputable def g12_pegs (p : PM) (v1 : Int32) : Prop := bg12_pegs v12_isOpen g12_isOpen v12_bestOf g12_bestOf g12_pegs_72 p v1
noncomputable def bv12_pegsAll_12 (F265 : PM → Int32 → PM) (kv4 : PM → Int32 → Int32 → PM) (kv12 : PM → Int32 → Int32 → Int32 → PM) (p : PM) (v1 : Int32) (v2 : Int32) (v3 : Int32) : PM :=
  if v3 < (cn 44) then (
    if (p.1 15 3 (v3).toNatClampNeg) = 0 then (
      kv12 p v1 v2 (v3 + (cn 1)))
    else (
      if (p.1 13 19 (v3).toNatClampNeg) = (cn 2) then (
        if v1 < (p.1 13 14 (v3).toNatClampNeg) then (
          if v2 < 0 then (
            kv12 p v1 v3 (v3 + (cn 1)))
          else (
            if (p.1 13 14 (v3).toNatClampNeg) < (p.1 13 14 (v2).toNatClampNeg) then (
              kv12 p v1 v3 (v3 + (cn 1)))
            else (
              kv12 p v1 v2 (v3 + (cn 1)))))
        else (
          kv12 p v1 v2 (v3 + (cn 1))))
      else (
        kv12 p v1 v2 (v3 + (cn 1)))))
  else (
    if v2 < 0 then (
      kv4 p v1 v2)
    else (
      let x1 : Int32 := (p.1 13 14 (v2).toNatClampNeg)
      let p2 : PM := F265 p v2
      kv4 p2 x1 v2))
noncomputable def v12_pegsAll_12 (kv4 : PM → Int32 → Int32 → PM) (n : Nat) : PM → Int32 → Int32 → Int32 → PM := Nat.rec (motive := fun _ => PM → Int32 → Int32 → Int32 → PM) (fun p _ _ _ => p) (fun _ ih => bv12_pegsAll_12 v12_pegs kv4 ih) n
theorem ev12_pegsAll_12 (kv4 : PM → Int32 → Int32 → PM) (n : Nat) (p : PM) (v1 : Int32) (v2 : Int32) (v3 : Int32) : v12_pegsAll_12 kv4 (n + 1) p v1 v2 v3 = bv12_pegsAll_12 v12_pegs kv4 (v12_pegsAll_12 kv4 n) p v1 v2 v3 := rfl
noncomputable def bg12_pegsAll_12 (F265 : PM → Int32 → PM) (G265 : PM → Int32 → Prop) (kg4 : PM → Int32 → Int32 → Prop) (kg12 : PM → Int32 → Int32 → Int32 → Prop) (p : PM) (v1 : Int32) (v2 : Int32) (v3 : Int32) : Prop :=
  if v3 < (cn 44) then (
    (inb v3 44) ∧ (
    if (p.1 15 3 (v3).toNatClampNeg) = 0 then (
      kg12 p v1 v2 (v3 + (cn 1)))
    else (
      (inb v3 44) ∧ (
      if (p.1 13 19 (v3).toNatClampNeg) = (cn 2) then (
        (inb v3 44) ∧ (
        if v1 < (p.1 13 14 (v3).toNatClampNeg) then (
          if v2 < 0 then (
            kg12 p v1 v3 (v3 + (cn 1)))
          else (
            (inb v3 44) ∧ (
            (inb v2 44) ∧ (
            if (p.1 13 14 (v3).toNatClampNeg) < (p.1 13 14 (v2).toNatClampNeg) then (
              kg12 p v1 v3 (v3 + (cn 1)))
            else (
              kg12 p v1 v2 (v3 + (cn 1)))))))
        else (
          kg12 p v1 v2 (v3 + (cn 1)))))
      else (
        kg12 p v1 v2 (v3 + (cn 1)))))))
  else (
    if v2 < 0 then (
      kg4 p v1 v2)
    else (
      (inb v2 44) ∧ (
      let x1 : Int32 := (p.1 13 14 (v2).toNatClampNeg)
      (G265 p v2) ∧ (
      let p2 : PM := F265 p v2
      kg4 p2 x1 v2))))
noncomputable def g12_pegsAll_12 (kg4 : PM → Int32 → Int32 → Prop) (n : Nat) : PM → Int32 → Int32 → Int32 → Prop := Nat.rec (motive := fun _ => PM → Int32 → Int32 → Int32 → Prop) (fun _ _ _ _ => False) (fun _ ih => bg12_pegsAll_12 v12_pegs g12_pegs kg4 ih) n
theorem eg12_pegsAll_12 (kg4 : PM → Int32 → Int32 → Prop) (n : Nat) (p : PM) (v1 : Int32) (v2 : Int32) (v3 : Int32) : g12_pegsAll_12 kg4 (n + 1) p v1 v2 v3 = bg12_pegsAll_12 v12_pegs g12_pegs kg4 (g12_pegsAll_12 kg4 n) p v1 v2 v3 := rfl
noncomputable def bv12_pegsAll_4 (kv12 : PM → Int32 → Int32 → Int32 → PM) (p : PM) (v1 : Int32) (v2 : Int32) : PM :=
  if v2 < 0 then (
    p)
  else (
    kv12 p v1 (cn (-1)) (cn 0))
noncomputable def v12_pegsAll_4 (n : Nat) : PM → Int32 → Int32 → PM := Nat.rec (motive := fun _ => PM → Int32 → Int32 → PM) (fun p _ _ => p) (fun _ ih => bv12_pegsAll_4 (v12_pegsAll_12 ih FU)) n
theorem ev12_pegsAll_4 (n : Nat) (p : PM) (v1 : Int32) (v2 : Int32) : v12_pegsAll_4 (n + 1) p v1 v2 = bv12_pegsAll_4 (v12_pegsAll_12 (v12_pegsAll_4 n) FU) p v1 v2 := rfl
noncomputable def bg12_pegsAll_4 (kg12 : PM → Int32 → Int32 → Int32 → Prop) (p : PM) (v1 : Int32) (v2 : Int32) : Prop :=
  if v2 < 0 then (
    True)
  else (
    kg12 p v1 (cn (-1)) (cn 0))
noncomputable def g12_pegsAll_4 (n : Nat) : PM → Int32 → Int32 → Prop := Nat.rec (motive := fun _ => PM → Int32 → Int32 → Prop) (fun _ _ _ => False) (fun _ ih => bg12_pegsAll_4 (g12_pegsAll_12 ih FU)) n
theorem eg12_pegsAll_4 (n : Nat) (p : PM) (v1 : Int32) (v2 : Int32) : g12_pegsAll_4 (n + 1) p v1 v2 = bg12_pegsAll_4 (g12_pegsAll_12 (g12_pegsAll_4 n) FU) p v1 v2 := rfl
noncomputable def bv12_pegsAll (kv4 : PM → Int32 → Int32 → PM) (p : PM) : PM :=
  kv4 p (cn (-1)) (cn 0)
noncomputable def v12_pegsAll (p : PM) : PM := bv12_pegsAll (v12_pegsAll_4 FU) p
noncomputable def bg12_pegsAll (kg4 : PM → Int32 → Int32 → Prop) (p : PM) : Prop :=
  kg4 p (cn (-1)) (cn 0)
noncomputable def g12_pegsAll (p : PM) : Prop := bg12_pegsAll (g12_pegsAll_4 FU) p
noncomputable def bv12_works_11 (F235 : PM → Int32 → Int32) (F256 : PM → Int32 → PM) (F258 : PM → Int32) (F264 : PM → Int32 × PM) (kv2 : PM → Int32 → PM) (kv11 : PM → Int32 → PM) (p : PM) (v2 : Int32) : PM :=
  if v2 < 0 then (
    let r1 : Int32 × PM := F264 p
    kv2 r1.2 r1.1)
  else (
    let p2 : PM := pI p 13 28 (v2).toNatClampNeg (F235 p (p.1 13 16 (v2).toNatClampNeg))
    let p3 : PM := F256 p2 v2
    kv11 p3 (F258 p3))
noncomputable def v12_works_11 (kv2 : PM → Int32 → PM) (n : Nat) : PM → Int32 → PM := Nat.rec (motive := fun _ => PM → Int32 → PM) (fun p _ => p) (fun _ ih => bv12_works_11 v12_latest v12_matches v12_readyStop v12_combines kv2 ih) n
theorem ev12_works_11 (kv2 : PM → Int32 → PM) (n : Nat) (p : PM) (v2 : Int32) : v12_works_11 kv2 (n + 1) p v2 = bv12_works_11 v12_latest v12_matches v12_readyStop v12_combines kv2 (v12_works_11 kv2 n) p v2 := rfl
noncomputable def bg12_works_11 (F235 : PM → Int32 → Int32) (G235 : PM → Int32 → Prop) (F256 : PM → Int32 → PM) (G256 : PM → Int32 → Prop) (F258 : PM → Int32) (G258 : PM → Prop) (F264 : PM → Int32 × PM) (G264 : PM → Prop) (kg2 : PM → Int32 → Prop) (kg11 : PM → Int32 → Prop) (p : PM) (v2 : Int32) : Prop :=
  if v2 < 0 then (
    (G264 p) ∧ (
    let r1 : Int32 × PM := F264 p
    kg2 r1.2 r1.1))
  else (
    (inb v2 44) ∧ (
    (G235 p (p.1 13 16 (v2).toNatClampNeg)) ∧ (
    (inb v2 44) ∧ (
    let p2 : PM := pI p 13 28 (v2).toNatClampNeg (F235 p (p.1 13 16 (v2).toNatClampNeg))
    (G256 p2 v2) ∧ (
    let p3 : PM := F256 p2 v2
    (G258 p3) ∧ (
    kg11 p3 (F258 p3)))))))
noncomputable def g12_works_11 (kg2 : PM → Int32 → Prop) (n : Nat) : PM → Int32 → Prop := Nat.rec (motive := fun _ => PM → Int32 → Prop) (fun _ _ => False) (fun _ ih => bg12_works_11 v12_latest g12_latest v12_matches g12_matches v12_readyStop g12_readyStop v12_combines g12_combines kg2 ih) n
theorem eg12_works_11 (kg2 : PM → Int32 → Prop) (n : Nat) (p : PM) (v2 : Int32) : g12_works_11 kg2 (n + 1) p v2 = bg12_works_11 v12_latest g12_latest v12_matches g12_matches v12_readyStop g12_readyStop v12_combines g12_combines kg2 (g12_works_11 kg2 n) p v2 := rfl
noncomputable def bv12_works_2 (F258 : PM → Int32) (F266 : PM → PM) (kv11 : PM → Int32 → PM) (p : PM) (v1 : Int32) : PM :=
  if v1 = 0 then (
    let p1 : PM := F266 p
    p1)
  else (
    kv11 p (F258 p))
noncomputable def v12_works_2 (n : Nat) : PM → Int32 → PM := Nat.rec (motive := fun _ => PM → Int32 → PM) (fun p _ => p) (fun _ ih => bv12_works_2 v12_readyStop v12_pegsAll (v12_works_11 ih FU)) n
theorem ev12_works_2 (n : Nat) (p : PM) (v1 : Int32) : v12_works_2 (n + 1) p v1 = bv12_works_2 v12_readyStop v12_pegsAll (v12_works_11 (v12_works_2 n) FU) p v1 := rfl
noncomputable def bg12_works_2 (F258 : PM → Int32) (G258 : PM → Prop) (F266 : PM → PM) (G266 : PM → Prop) (kg11 : PM → Int32 → Prop) (p : PM) (v1 : Int32) : Prop :=
  if v1 = 0 then (
    (G266 p) ∧ (
    let p1 : PM := F266 p
    True))
  else (
    (G258 p) ∧ (
    kg11 p (F258 p)))
noncomputable def g12_works_2 (n : Nat) : PM → Int32 → Prop := Nat.rec (motive := fun _ => PM → Int32 → Prop) (fun _ _ => False) (fun _ ih => bg12_works_2 v12_readyStop g12_readyStop v12_pegsAll g12_pegsAll (g12_works_11 ih FU)) n
theorem eg12_works_2 (n : Nat) (p : PM) (v1 : Int32) : g12_works_2 (n + 1) p v1 = bg12_works_2 v12_readyStop g12_readyStop v12_pegsAll g12_pegsAll (g12_works_11 (g12_works_2 n) FU) p v1 := rfl
noncomputable def bv12_works (kv2 : PM → Int32 → PM) (p : PM) : PM :=
  kv2 p (cn 1)
noncomputable def v12_works (p : PM) : PM := bv12_works (v12_works_2 FU) p
noncomputable def bg12_works (kg2 : PM → Int32 → Prop) (p : PM) : Prop :=
  kg2 p (cn 1)
noncomputable def g12_works (p : PM) : Prop := bg12_works (g12_works_2 FU) p
noncomputable def bv12_wants_6 (p : PM) (F238 : PM → Int32 → Int32 → Int32 → Int32) (F239 : PM → Int32 → Int32 → Int32 → Int32) (kv6 : Int32 → Int32 → Int32 → Int32 → Int32 → Int32) (v1 : Int32) (v2 : Int32) (v3 : Int32) (v4 : Int32) (v5 : Int32) : Int32 :=
  if v5 < (cn 44) then (
    if (F238 p v5 v1 v2) = 0 then (
      kv6 v1 v2 v3 (v4 + (cn 0)) (v5 + (cn 1)))
    else (
      if (p.1 15 5 (v5).toNatClampNeg) = 0 then (
        if (F239 p v3 (p.1 13 25 (v5).toNatClampNeg) v2) = 0 then (
          let x2 : Int32 := (v4 + (p.1 13 17 (v5).toNatClampNeg))
          kv6 v1 v2 v3 x2 (v5 + (cn 1)))
        else (
          kv6 v1 v2 v3 (v4 + (cn 0)) (v5 + (cn 1))))
      else (
        let x1 : Int32 := (v4 + (p.1 13 17 (v5).toNatClampNeg))
        kv6 v1 v2 v3 x1 (v5 + (cn 1)))))
  else (
    v4)
noncomputable def v12_wants_6 (p : PM) (n : Nat) : Int32 → Int32 → Int32 → Int32 → Int32 → Int32 := Nat.rec (motive := fun _ => Int32 → Int32 → Int32 → Int32 → Int32 → Int32) (fun _ _ _ _ _ => 0) (fun _ ih => bv12_wants_6 p v12_isThere v12_isBetter ih) n
theorem ev12_wants_6 (p : PM) (n : Nat) (v1 : Int32) (v2 : Int32) (v3 : Int32) (v4 : Int32) (v5 : Int32) : v12_wants_6 p (n + 1) v1 v2 v3 v4 v5 = bv12_wants_6 p v12_isThere v12_isBetter (v12_wants_6 p n) v1 v2 v3 v4 v5 := rfl
noncomputable def bg12_wants_6 (p : PM) (F238 : PM → Int32 → Int32 → Int32 → Int32) (G238 : PM → Int32 → Int32 → Int32 → Prop) (F239 : PM → Int32 → Int32 → Int32 → Int32) (G239 : PM → Int32 → Int32 → Int32 → Prop) (kg6 : Int32 → Int32 → Int32 → Int32 → Int32 → Prop) (v1 : Int32) (v2 : Int32) (v3 : Int32) (v4 : Int32) (v5 : Int32) : Prop :=
  if v5 < (cn 44) then (
    (G238 p v5 v1 v2) ∧ (
    if (F238 p v5 v1 v2) = 0 then (
      kg6 v1 v2 v3 (v4 + (cn 0)) (v5 + (cn 1)))
    else (
      (inb v5 44) ∧ (
      if (p.1 15 5 (v5).toNatClampNeg) = 0 then (
        (inb v5 44) ∧ (
        (G239 p v3 (p.1 13 25 (v5).toNatClampNeg) v2) ∧ (
        if (F239 p v3 (p.1 13 25 (v5).toNatClampNeg) v2) = 0 then (
          (inb v5 44) ∧ (
          let x2 : Int32 := (v4 + (p.1 13 17 (v5).toNatClampNeg))
          kg6 v1 v2 v3 x2 (v5 + (cn 1))))
        else (
          kg6 v1 v2 v3 (v4 + (cn 0)) (v5 + (cn 1))))))
      else (
        (inb v5 44) ∧ (
        let x1 : Int32 := (v4 + (p.1 13 17 (v5).toNatClampNeg))
        kg6 v1 v2 v3 x1 (v5 + (cn 1))))))))
  else (
    True)
noncomputable def g12_wants_6 (p : PM) (n : Nat) : Int32 → Int32 → Int32 → Int32 → Int32 → Prop := Nat.rec (motive := fun _ => Int32 → Int32 → Int32 → Int32 → Int32 → Prop) (fun _ _ _ _ _ => False) (fun _ ih => bg12_wants_6 p v12_isThere g12_isThere v12_isBetter g12_isBetter ih) n
theorem eg12_wants_6 (p : PM) (n : Nat) (v1 : Int32) (v2 : Int32) (v3 : Int32) (v4 : Int32) (v5 : Int32) : g12_wants_6 p (n + 1) v1 v2 v3 v4 v5 = bg12_wants_6 p v12_isThere g12_isThere v12_isBetter g12_isBetter (g12_wants_6 p n) v1 v2 v3 v4 v5 := rfl
noncomputable def bv12_wants (p : PM) (kv6 : Int32 → Int32 → Int32 → Int32 → Int32 → Int32) (v1 : Int32) (v2 : Int32) (v3 : Int32) : Int32 :=
  kv6 v1 v2 v3 (cn 0) (cn 0)
noncomputable def v12_wants (p : PM) (v1 : Int32) (v2 : Int32) (v3 : Int32) : Int32 := bv12_wants p (v12_wants_6 p FU) v1 v2 v3
noncomputable def bg12_wants (p : PM) (kg6 : Int32 → Int32 → Int32 → Int32 → Int32 → Prop) (v1 : Int32) (v2 : Int32) (v3 : Int32) : Prop :=
  kg6 v1 v2 v3 (cn 0) (cn 0)
noncomputable def g12_wants (p : PM) (v1 : Int32) (v2 : Int32) (v3 : Int32) : Prop := bg12_wants p (g12_wants_6 p FU) v1 v2 v3
noncomputable def bv12_finds_221 (F216 : PM → Int32 → Int32) (kv15 : PM → Int32 → Int32 → Int32 → PM) (p : PM) (v1 : Int32) (v2 : Int32) (v3 : Int32) (v5 : Int32) (v6 : Int32) (v7 : Int32) : PM :=
  let p1 : PM := pI p 12 1 65 (p.1 13 25 (v3).toNatClampNeg)
  let p2 : PM := pI p1 12 1 64 v7
  kv15 p2 v1 (F216 p2 (v5 - v6)) (v3 + (cn 1))
noncomputable def v12_finds_221 (kv15 : PM → Int32 → Int32 → Int32 → PM) (p : PM) (v1 : Int32) (v2 : Int32) (v3 : Int32) (v5 : Int32) (v6 : Int32) (v7 : Int32) : PM := bv12_finds_221 v12_abs kv15 p v1 v2 v3 v5 v6 v7
noncomputable def bg12_finds_221 (F216 : PM → Int32 → Int32) (G216 : PM → Int32 → Prop) (kg15 : PM → Int32 → Int32 → Int32 → Prop) (p : PM) (v1 : Int32) (v2 : Int32) (v3 : Int32) (v5 : Int32) (v6 : Int32) (v7 : Int32) : Prop :=
  (inb v3 44) ∧ (
  let p1 : PM := pI p 12 1 65 (p.1 13 25 (v3).toNatClampNeg)
  let p2 : PM := pI p1 12 1 64 v7
  (G216 p2 (v5 - v6)) ∧ (
  kg15 p2 v1 (F216 p2 (v5 - v6)) (v3 + (cn 1))))
noncomputable def g12_finds_221 (kg15 : PM → Int32 → Int32 → Int32 → Prop) (p : PM) (v1 : Int32) (v2 : Int32) (v3 : Int32) (v5 : Int32) (v6 : Int32) (v7 : Int32) : Prop := bg12_finds_221 v12_abs g12_abs kg15 p v1 v2 v3 v5 v6 v7
noncomputable def bv12_finds_225 (kv15 : PM → Int32 → Int32 → Int32 → PM) (p : PM) (v1 : Int32) (v2 : Int32) (v3 : Int32) (v5 : Int32) (v6 : Int32) (v7 : Int32) : PM :=
  let p1 : PM := pI p 12 1 65 (p.1 12 1 65)
  let p2 : PM := pI p1 12 1 64 (p1.1 12 1 64)
  kv15 p2 v1 v2 (v3 + (cn 1))
noncomputable def v12_finds_225 (kv15 : PM → Int32 → Int32 → Int32 → PM) (p : PM) (v1 : Int32) (v2 : Int32) (v3 : Int32) (v5 : Int32) (v6 : Int32) (v7 : Int32) : PM := bv12_finds_225 kv15 p v1 v2 v3 v5 v6 v7
noncomputable def bg12_finds_225 (kg15 : PM → Int32 → Int32 → Int32 → Prop) (p : PM) (v1 : Int32) (v2 : Int32) (v3 : Int32) (v5 : Int32) (v6 : Int32) (v7 : Int32) : Prop :=
  let p1 : PM := pI p 12 1 65 (p.1 12 1 65)
  let p2 : PM := pI p1 12 1 64 (p1.1 12 1 64)
  kg15 p2 v1 v2 (v3 + (cn 1))
noncomputable def g12_finds_225 (kg15 : PM → Int32 → Int32 → Int32 → Prop) (p : PM) (v1 : Int32) (v2 : Int32) (v3 : Int32) (v5 : Int32) (v6 : Int32) (v7 : Int32) : Prop := bg12_finds_225 kg15 p v1 v2 v3 v5 v6 v7
noncomputable def bv12_finds_64 (F216 : PM → Int32 → Int32) (F244 : PM → Int32 → Int32 → Int32) (F268 : PM → Int32 → Int32 → Int32 → Int32) (kv15 : PM → Int32 → Int32 → Int32 → PM) (kv221 : PM → Int32 → Int32 → Int32 → Int32 → Int32 → Int32 → PM) (kv225 : PM → Int32 → Int32 → Int32 → Int32 → Int32 → Int32 → PM) (p : PM) (v1 : Int32) (v2 : Int32) (v3 : Int32) (s0 : Int32) : PM :=
  if s0 = 0 then (
    kv15 p v1 v2 (v3 + (cn 1)))
  else (
    let x1 : Int32 := (F268 p v1 (cn 1) (p.1 13 25 (v3).toNatClampNeg))
    let x2 : Int32 := (F268 p v1 (cn 0) (p.1 13 25 (v3).toNatClampNeg))
    let x3 : Int32 := (F216 p ((p.1 13 25 (v3).toNatClampNeg) - (p.1 13 11 (v1).toNatClampNeg)))
    let x4 : Int32 := (F216 p ((p.1 12 1 65) - (p.1 13 11 (v1).toNatClampNeg)))
    if (p.1 12 1 65) = (cn (-100000)) then (
      kv221 p v1 v2 v3 x1 x2 (F244 p x1 x2))
    else (
      if (p.1 12 1 64) < (F244 p x1 x2) then (
        kv221 p v1 v2 v3 x1 x2 (F244 p x1 x2))
      else (
        if (F244 p x1 x2) = (p.1 12 1 64) then (
          if (F216 p (x1 - x2)) < v2 then (
            kv221 p v1 v2 v3 x1 x2 (F244 p x1 x2))
          else (
            if (F216 p (x1 - x2)) = v2 then (
              if x3 < x4 then (
                kv221 p v1 v2 v3 x1 x2 (F244 p x1 x2))
              else (
                if x3 = x4 then (
                  if (p.1 13 25 (v3).toNatClampNeg) < (p.1 12 1 65) then (
                    kv221 p v1 v2 v3 x1 x2 (F244 p x1 x2))
                  else (
                    kv225 p v1 v2 v3 x1 x2 (F244 p x1 x2)))
                else (
                  kv225 p v1 v2 v3 x1 x2 (F244 p x1 x2))))
            else (
              kv225 p v1 v2 v3 x1 x2 (F244 p x1 x2))))
        else (
          kv225 p v1 v2 v3 x1 x2 (F244 p x1 x2)))))
noncomputable def v12_finds_64 (kv15 : PM → Int32 → Int32 → Int32 → PM) (p : PM) (v1 : Int32) (v2 : Int32) (v3 : Int32) (s0 : Int32) : PM := bv12_finds_64 v12_abs v12_least v12_wants kv15 (v12_finds_221 kv15) (v12_finds_225 kv15) p v1 v2 v3 s0
noncomputable def bg12_finds_64 (F216 : PM → Int32 → Int32) (G216 : PM → Int32 → Prop) (F244 : PM → Int32 → Int32 → Int32) (G244 : PM → Int32 → Int32 → Prop) (F268 : PM → Int32 → Int32 → Int32 → Int32) (G268 : PM → Int32 → Int32 → Int32 → Prop) (kg15 : PM → Int32 → Int32 → Int32 → Prop) (kg221 : PM → Int32 → Int32 → Int32 → Int32 → Int32 → Int32 → Prop) (kg225 : PM → Int32 → Int32 → Int32 → Int32 → Int32 → Int32 → Prop) (p : PM) (v1 : Int32) (v2 : Int32) (v3 : Int32) (s0 : Int32) : Prop :=
  if s0 = 0 then (
    kg15 p v1 v2 (v3 + (cn 1)))
  else (
    (inb v3 44) ∧ (
    (G268 p v1 (cn 1) (p.1 13 25 (v3).toNatClampNeg)) ∧ (
    let x1 : Int32 := (F268 p v1 (cn 1) (p.1 13 25 (v3).toNatClampNeg))
    (inb v3 44) ∧ (
    (G268 p v1 (cn 0) (p.1 13 25 (v3).toNatClampNeg)) ∧ (
    let x2 : Int32 := (F268 p v1 (cn 0) (p.1 13 25 (v3).toNatClampNeg))
    (G244 p x1 x2) ∧ (
    (inb v3 44) ∧ (
    (inb v1 6) ∧ (
    (G216 p ((p.1 13 25 (v3).toNatClampNeg) - (p.1 13 11 (v1).toNatClampNeg))) ∧ (
    let x3 : Int32 := (F216 p ((p.1 13 25 (v3).toNatClampNeg) - (p.1 13 11 (v1).toNatClampNeg)))
    (inb v1 6) ∧ (
    (G216 p ((p.1 12 1 65) - (p.1 13 11 (v1).toNatClampNeg))) ∧ (
    let x4 : Int32 := (F216 p ((p.1 12 1 65) - (p.1 13 11 (v1).toNatClampNeg)))
    if (p.1 12 1 65) = (cn (-100000)) then (
      kg221 p v1 v2 v3 x1 x2 (F244 p x1 x2))
    else (
      if (p.1 12 1 64) < (F244 p x1 x2) then (
        kg221 p v1 v2 v3 x1 x2 (F244 p x1 x2))
      else (
        if (F244 p x1 x2) = (p.1 12 1 64) then (
          (G216 p (x1 - x2)) ∧ (
          if (F216 p (x1 - x2)) < v2 then (
            kg221 p v1 v2 v3 x1 x2 (F244 p x1 x2))
          else (
            (G216 p (x1 - x2)) ∧ (
            if (F216 p (x1 - x2)) = v2 then (
              if x3 < x4 then (
                kg221 p v1 v2 v3 x1 x2 (F244 p x1 x2))
              else (
                if x3 = x4 then (
                  (inb v3 44) ∧ (
                  if (p.1 13 25 (v3).toNatClampNeg) < (p.1 12 1 65) then (
                    kg221 p v1 v2 v3 x1 x2 (F244 p x1 x2))
                  else (
                    kg225 p v1 v2 v3 x1 x2 (F244 p x1 x2))))
                else (
                  kg225 p v1 v2 v3 x1 x2 (F244 p x1 x2))))
            else (
              kg225 p v1 v2 v3 x1 x2 (F244 p x1 x2))))))
        else (
          kg225 p v1 v2 v3 x1 x2 (F244 p x1 x2)))))))))))))))
noncomputable def g12_finds_64 (kg15 : PM → Int32 → Int32 → Int32 → Prop) (p : PM) (v1 : Int32) (v2 : Int32) (v3 : Int32) (s0 : Int32) : Prop := bg12_finds_64 v12_abs g12_abs v12_least g12_least v12_wants g12_wants kg15 (g12_finds_221 kg15) (g12_finds_225 kg15) p v1 v2 v3 s0
noncomputable def bv12_finds_63 (kv64 : PM → Int32 → Int32 → Int32 → Int32 → PM) (p : PM) (v1 : Int32) (v2 : Int32) (v3 : Int32) : PM :=
  kv64 p v1 v2 v3 (cn 0)
noncomputable def v12_finds_63 (kv15 : PM → Int32 → Int32 → Int32 → PM) (p : PM) (v1 : Int32) (v2 : Int32) (v3 : Int32) : PM := bv12_finds_63 (v12_finds_64 kv15) p v1 v2 v3
noncomputable def bg12_finds_63 (kg64 : PM → Int32 → Int32 → Int32 → Int32 → Prop) (p : PM) (v1 : Int32) (v2 : Int32) (v3 : Int32) : Prop :=
  kg64 p v1 v2 v3 (cn 0)
noncomputable def g12_finds_63 (kg15 : PM → Int32 → Int32 → Int32 → Prop) (p : PM) (v1 : Int32) (v2 : Int32) (v3 : Int32) : Prop := bg12_finds_63 (g12_finds_64 kg15) p v1 v2 v3
noncomputable def bv12_finds_339 (p : PM) : PM :=
  if (p.1 12 1 64) = 0 then (
    let p2 : PM := pI p 12 1 65 (cn (-100000))
    p2)
  else (
    let p1 : PM := pI p 12 1 65 (p.1 12 1 65)
    p1)
noncomputable def v12_finds_339 (p : PM) : PM := bv12_finds_339 p
noncomputable def bg12_finds_339 (p : PM) : Prop :=
  if (p.1 12 1 64) = 0 then (
    let p2 : PM := pI p 12 1 65 (cn (-100000))
    True)
  else (
    let p1 : PM := pI p 12 1 65 (p.1 12 1 65)
    True)
noncomputable def g12_finds_339 (p : PM) : Prop := bg12_finds_339 p
noncomputable def bv12_finds_15 (F244 : PM → Int32 → Int32 → Int32) (F268 : PM → Int32 → Int32 → Int32 → Int32) (kv63 : PM → Int32 → Int32 → Int32 → PM) (kv64 : PM → Int32 → Int32 → Int32 → Int32 → PM) (kv339 : PM → PM) (p : PM) (v1 : Int32) (v2 : Int32) (v3 : Int32) : PM :=
  if v3 < (cn 44) then (
    if (p.1 15 3 (v3).toNatClampNeg) = 0 then (
      kv63 p v1 v2 v3)
    else (
      if (p.1 13 24 (v3).toNatClampNeg) = (cn 1) then (
        if (p.1 13 16 (v3).toNatClampNeg) = v1 then (
          if (p.1 15 5 (v3).toNatClampNeg) = 0 then (
            kv64 p v1 v2 v3 (cn 1))
          else (
            kv63 p v1 v2 v3))
        else (
          kv63 p v1 v2 v3))
      else (
        kv63 p v1 v2 v3)))
  else (
    if (p.1 12 1 65) = (cn (-100000)) then (
      let p1 : PM := pI p 12 1 65 (p.1 13 11 (v1).toNatClampNeg)
      let p2 : PM := pI p1 12 1 64 (F244 p1 (F268 p1 v1 (cn 1) (p1.1 12 1 65)) (F268 p1 v1 (cn 0) (p1.1 12 1 65)))
      kv339 p2)
    else (
      kv339 p))
noncomputable def v12_finds_15 (n : Nat) : PM → Int32 → Int32 → Int32 → PM := Nat.rec (motive := fun _ => PM → Int32 → Int32 → Int32 → PM) (fun p _ _ _ => p) (fun _ ih => bv12_finds_15 v12_least v12_wants (v12_finds_63 ih) (v12_finds_64 ih) v12_finds_339) n
theorem ev12_finds_15 (n : Nat) (p : PM) (v1 : Int32) (v2 : Int32) (v3 : Int32) : v12_finds_15 (n + 1) p v1 v2 v3 = bv12_finds_15 v12_least v12_wants (v12_finds_63 (v12_finds_15 n)) (v12_finds_64 (v12_finds_15 n)) v12_finds_339 p v1 v2 v3 := rfl
noncomputable def bg12_finds_15 (F244 : PM → Int32 → Int32 → Int32) (G244 : PM → Int32 → Int32 → Prop) (F268 : PM → Int32 → Int32 → Int32 → Int32) (G268 : PM → Int32 → Int32 → Int32 → Prop) (kg63 : PM → Int32 → Int32 → Int32 → Prop) (kg64 : PM → Int32 → Int32 → Int32 → Int32 → Prop) (kg339 : PM → Prop) (p : PM) (v1 : Int32) (v2 : Int32) (v3 : Int32) : Prop :=
  if v3 < (cn 44) then (
    (inb v3 44) ∧ (
    if (p.1 15 3 (v3).toNatClampNeg) = 0 then (
      kg63 p v1 v2 v3)
    else (
      (inb v3 44) ∧ (
      if (p.1 13 24 (v3).toNatClampNeg) = (cn 1) then (
        (inb v3 44) ∧ (
        if (p.1 13 16 (v3).toNatClampNeg) = v1 then (
          (inb v3 44) ∧ (
          if (p.1 15 5 (v3).toNatClampNeg) = 0 then (
            kg64 p v1 v2 v3 (cn 1))
          else (
            kg63 p v1 v2 v3)))
        else (
          kg63 p v1 v2 v3)))
      else (
        kg63 p v1 v2 v3)))))
  else (
    if (p.1 12 1 65) = (cn (-100000)) then (
      (inb v1 6) ∧ (
      let p1 : PM := pI p 12 1 65 (p.1 13 11 (v1).toNatClampNeg)
      (G268 p1 v1 (cn 1) (p1.1 12 1 65)) ∧ (
      (G268 p1 v1 (cn 0) (p1.1 12 1 65)) ∧ (
      (G244 p1 (F268 p1 v1 (cn 1) (p1.1 12 1 65)) (F268 p1 v1 (cn 0) (p1.1 12 1 65))) ∧ (
      let p2 : PM := pI p1 12 1 64 (F244 p1 (F268 p1 v1 (cn 1) (p1.1 12 1 65)) (F268 p1 v1 (cn 0) (p1.1 12 1 65)))
      kg339 p2)))))
    else (
      kg339 p))
noncomputable def g12_finds_15 (n : Nat) : PM → Int32 → Int32 → Int32 → Prop := Nat.rec (motive := fun _ => PM → Int32 → Int32 → Int32 → Prop) (fun _ _ _ _ => False) (fun _ ih => bg12_finds_15 v12_least g12_least v12_wants g12_wants (g12_finds_63 ih) (g12_finds_64 ih) g12_finds_339) n
theorem eg12_finds_15 (n : Nat) (p : PM) (v1 : Int32) (v2 : Int32) (v3 : Int32) : g12_finds_15 (n + 1) p v1 v2 v3 = bg12_finds_15 v12_least g12_least v12_wants g12_wants (g12_finds_63 (g12_finds_15 n)) (g12_finds_64 (g12_finds_15 n)) g12_finds_339 p v1 v2 v3 := rfl
noncomputable def bv12_finds (kv15 : PM → Int32 → Int32 → Int32 → PM) (p : PM) (v1 : Int32) : PM :=
  let p1 : PM := pI p 12 1 65 (cn (-100000))
  let p2 : PM := pI p1 12 1 64 (cn 0)
  kv15 p2 v1 (cn 0) (cn 0)
noncomputable def v12_finds (p : PM) (v1 : Int32) : PM := bv12_finds (v12_finds_15 FU) p v1
noncomputable def bg12_finds (kg15 : PM → Int32 → Int32 → Int32 → Prop) (p : PM) (v1 : Int32) : Prop :=
  let p1 : PM := pI p 12 1 65 (cn (-100000))
  let p2 : PM := pI p1 12 1 64 (cn 0)
  kg15 p2 v1 (cn 0) (cn 0)
noncomputable def g12_finds (p : PM) (v1 : Int32) : Prop := bg12_finds (g12_finds_15 FU) p v1
noncomputable def bv12_firstIn_134 (p : PM) (kv6 : Int32 → Int32 → Int32 → Int32 → Int32 → Int32) (v1 : Int32) (v2 : Int32) (v3 : Int32) (v4 : Int32) (v5 : Int32) : Int32 :=
  if (p.1 15 5 (v5).toNatClampNeg) = 0 then (
    if (p.1 13 25 (v5).toNatClampNeg) = (p.1 13 25 (v4).toNatClampNeg) then (
      if (p.1 13 23 (v5).toNatClampNeg) < (p.1 13 23 (v4).toNatClampNeg) then (
        kv6 v1 v2 v3 v5 (v5 + (cn 1)))
      else (
        kv6 v1 v2 v3 v4 (v5 + (cn 1))))
    else (
      kv6 v1 v2 v3 v4 (v5 + (cn 1))))
  else (
    if (p.1 13 23 (v5).toNatClampNeg) < (p.1 13 23 (v4).toNatClampNeg) then (
      kv6 v1 v2 v3 v5 (v5 + (cn 1)))
    else (
      kv6 v1 v2 v3 v4 (v5 + (cn 1))))
noncomputable def v12_firstIn_134 (p : PM) (kv6 : Int32 → Int32 → Int32 → Int32 → Int32 → Int32) (v1 : Int32) (v2 : Int32) (v3 : Int32) (v4 : Int32) (v5 : Int32) : Int32 := bv12_firstIn_134 p kv6 v1 v2 v3 v4 v5
noncomputable def bg12_firstIn_134 (p : PM) (kg6 : Int32 → Int32 → Int32 → Int32 → Int32 → Prop) (v1 : Int32) (v2 : Int32) (v3 : Int32) (v4 : Int32) (v5 : Int32) : Prop :=
  (inb v5 44) ∧ (
  if (p.1 15 5 (v5).toNatClampNeg) = 0 then (
    (inb v5 44) ∧ (
    (inb v4 44) ∧ (
    if (p.1 13 25 (v5).toNatClampNeg) = (p.1 13 25 (v4).toNatClampNeg) then (
      (inb v5 44) ∧ (
      (inb v4 44) ∧ (
      if (p.1 13 23 (v5).toNatClampNeg) < (p.1 13 23 (v4).toNatClampNeg) then (
        kg6 v1 v2 v3 v5 (v5 + (cn 1)))
      else (
        kg6 v1 v2 v3 v4 (v5 + (cn 1))))))
    else (
      kg6 v1 v2 v3 v4 (v5 + (cn 1))))))
  else (
    (inb v5 44) ∧ (
    (inb v4 44) ∧ (
    if (p.1 13 23 (v5).toNatClampNeg) < (p.1 13 23 (v4).toNatClampNeg) then (
      kg6 v1 v2 v3 v5 (v5 + (cn 1)))
    else (
      kg6 v1 v2 v3 v4 (v5 + (cn 1)))))))
noncomputable def g12_firstIn_134 (p : PM) (kg6 : Int32 → Int32 → Int32 → Int32 → Int32 → Prop) (v1 : Int32) (v2 : Int32) (v3 : Int32) (v4 : Int32) (v5 : Int32) : Prop := bg12_firstIn_134 p kg6 v1 v2 v3 v4 v5
noncomputable def bv12_firstIn_54 (p : PM) (F239 : PM → Int32 → Int32 → Int32 → Int32) (kv6 : Int32 → Int32 → Int32 → Int32 → Int32 → Int32) (kv134 : Int32 → Int32 → Int32 → Int32 → Int32 → Int32) (v1 : Int32) (v2 : Int32) (v3 : Int32) (v4 : Int32) (v5 : Int32) (s0 : Int32) : Int32 :=
  if s0 = 0 then (
    kv6 v1 v2 v3 v4 (v5 + (cn 1)))
  else (
    if v4 < 0 then (
      kv6 v1 v2 v3 v5 (v5 + (cn 1)))
    else (
      if (p.1 15 5 (v5).toNatClampNeg) = 0 then (
        if (p.1 15 5 (v5).toNatClampNeg) = (p.1 15 5 (v4).toNatClampNeg) then (
          if (p.1 15 5 (v5).toNatClampNeg) = 0 then (
            if (F239 p (p.1 13 25 (v5).toNatClampNeg) (p.1 13 25 (v4).toNatClampNeg) v2) = 0 then (
              kv134 v1 v2 v3 v4 v5)
            else (
              kv6 v1 v2 v3 v5 (v5 + (cn 1))))
          else (
            kv134 v1 v2 v3 v4 v5))
        else (
          kv6 v1 v2 v3 v4 (v5 + (cn 1))))
      else (
        if (p.1 15 5 (v4).toNatClampNeg) = 0 then (
          kv6 v1 v2 v3 v5 (v5 + (cn 1)))
        else (
          if (p.1 15 5 (v5).toNatClampNeg) = (p.1 15 5 (v4).toNatClampNeg) then (
            if (p.1 15 5 (v5).toNatClampNeg) = 0 then (
              if (F239 p (p.1 13 25 (v5).toNatClampNeg) (p.1 13 25 (v4).toNatClampNeg) v2) = 0 then (
                kv134 v1 v2 v3 v4 v5)
              else (
                kv6 v1 v2 v3 v5 (v5 + (cn 1))))
            else (
              kv134 v1 v2 v3 v4 v5))
          else (
            kv6 v1 v2 v3 v4 (v5 + (cn 1)))))))
noncomputable def v12_firstIn_54 (p : PM) (kv6 : Int32 → Int32 → Int32 → Int32 → Int32 → Int32) (v1 : Int32) (v2 : Int32) (v3 : Int32) (v4 : Int32) (v5 : Int32) (s0 : Int32) : Int32 := bv12_firstIn_54 p v12_isBetter kv6 (v12_firstIn_134 p kv6) v1 v2 v3 v4 v5 s0
noncomputable def bg12_firstIn_54 (p : PM) (F239 : PM → Int32 → Int32 → Int32 → Int32) (G239 : PM → Int32 → Int32 → Int32 → Prop) (kg6 : Int32 → Int32 → Int32 → Int32 → Int32 → Prop) (kg134 : Int32 → Int32 → Int32 → Int32 → Int32 → Prop) (v1 : Int32) (v2 : Int32) (v3 : Int32) (v4 : Int32) (v5 : Int32) (s0 : Int32) : Prop :=
  if s0 = 0 then (
    kg6 v1 v2 v3 v4 (v5 + (cn 1)))
  else (
    if v4 < 0 then (
      kg6 v1 v2 v3 v5 (v5 + (cn 1)))
    else (
      (inb v5 44) ∧ (
      if (p.1 15 5 (v5).toNatClampNeg) = 0 then (
        (inb v5 44) ∧ (
        (inb v4 44) ∧ (
        if (p.1 15 5 (v5).toNatClampNeg) = (p.1 15 5 (v4).toNatClampNeg) then (
          (inb v5 44) ∧ (
          if (p.1 15 5 (v5).toNatClampNeg) = 0 then (
            (inb v5 44) ∧ (
            (inb v4 44) ∧ (
            (G239 p (p.1 13 25 (v5).toNatClampNeg) (p.1 13 25 (v4).toNatClampNeg) v2) ∧ (
            if (F239 p (p.1 13 25 (v5).toNatClampNeg) (p.1 13 25 (v4).toNatClampNeg) v2) = 0 then (
              kg134 v1 v2 v3 v4 v5)
            else (
              kg6 v1 v2 v3 v5 (v5 + (cn 1)))))))
          else (
            kg134 v1 v2 v3 v4 v5)))
        else (
          kg6 v1 v2 v3 v4 (v5 + (cn 1))))))
      else (
        (inb v4 44) ∧ (
        if (p.1 15 5 (v4).toNatClampNeg) = 0 then (
          kg6 v1 v2 v3 v5 (v5 + (cn 1)))
        else (
          (inb v5 44) ∧ (
          (inb v4 44) ∧ (
          if (p.1 15 5 (v5).toNatClampNeg) = (p.1 15 5 (v4).toNatClampNeg) then (
            (inb v5 44) ∧ (
            if (p.1 15 5 (v5).toNatClampNeg) = 0 then (
              (inb v5 44) ∧ (
              (inb v4 44) ∧ (
              (G239 p (p.1 13 25 (v5).toNatClampNeg) (p.1 13 25 (v4).toNatClampNeg) v2) ∧ (
              if (F239 p (p.1 13 25 (v5).toNatClampNeg) (p.1 13 25 (v4).toNatClampNeg) v2) = 0 then (
                kg134 v1 v2 v3 v4 v5)
              else (
                kg6 v1 v2 v3 v5 (v5 + (cn 1)))))))
            else (
              kg134 v1 v2 v3 v4 v5)))
          else (
            kg6 v1 v2 v3 v4 (v5 + (cn 1)))))))))))
