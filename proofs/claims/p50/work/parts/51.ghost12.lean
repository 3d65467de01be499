/-! the reference as functions, a ghost beside the class (text of wip/whole/lift.py, chosen by wip/p50/ghost.py) -/
noncomputable def v12_trade_27 (p : PM) (v1 : Int32) (v2 : Int32) (s0 : Int32) : Int32 × PM := bv12_trade_27 p v1 v2 s0
noncomputable def bg12_trade_27 (p : PM) (v1 : Int32) (v2 : Int32) (s0 : Int32) : Prop :=
  let p1 : PM := pI p 12 1 0 s0
  if (p1.1 12 1 0) = 0 then (
    if v2 = 0 then (
      (inb (irm v1 (cn 60)) 60) ∧ (
      True))
    else (
      if v2 = (cn 1) then (
        (inb (irm v1 (cn 60)) 60) ∧ (
        True))
      else (
        if v2 = (cn 2) then (
          (inb (irm v1 (cn 60)) 60) ∧ (
          True))
        else (
          if v2 = (cn 3) then (
            (inb (irm v1 (cn 60)) 60) ∧ (
            True))
          else (
            if v2 = (cn 4) then (
              (inb (irm v1 (cn 60)) 60) ∧ (
              True))
            else (
              (inb (irm v1 (cn 60)) 60) ∧ (
              if (p1.1 15 7 ((irm v1 (cn 60))).toNatClampNeg) = 0 then (
                True)
              else (
                True))))))))
  else (
    True)
noncomputable def g12_trade_27 (p : PM) (v1 : Int32) (v2 : Int32) (s0 : Int32) : Prop := bg12_trade_27 p v1 v2 s0
noncomputable def bv12_trade (F215 : PM → Int32 → Int32 → Int32 → Int32) (F234 : PM → Int32 → Int32) (kv27 : PM → Int32 → Int32 → Int32 → Int32 × PM) (p : PM) (v1 : Int32) (v2 : Int32) : Int32 × PM :=
  if (F234 p v1) = 0 then (
    kv27 p v1 v2 (cn 1))
  else (
    if (F215 p v2 (cn 0) (cn 5)) = 0 then (
      kv27 p v1 v2 (cn 2))
    else (
      kv27 p v1 v2 (cn 0)))
noncomputable def v12_trade (p : PM) (v1 : Int32) (v2 : Int32) : Int32 × PM := bv12_trade v12_in v12_isKept v12_trade_27 p v1 v2
noncomputable def bg12_trade (F215 : PM → Int32 → Int32 → Int32 → Int32) (G215 : PM → Int32 → Int32 → Int32 → Prop) (F234 : PM → Int32 → Int32) (G234 : PM → Int32 → Prop) (kg27 : PM → Int32 → Int32 → Int32 → Prop) (p : PM) (v1 : Int32) (v2 : Int32) : Prop :=
  (G234 p v1) ∧ (
  if (F234 p v1) = 0 then (
    kg27 p v1 v2 (cn 1))
  else (
    (G215 p v2 (cn 0) (cn 5)) ∧ (
    if (F215 p v2 (cn 0) (cn 5)) = 0 then (
      kg27 p v1 v2 (cn 2))
    else (
      kg27 p v1 v2 (cn 0)))))
noncomputable def g12_trade (p : PM) (v1 : Int32) (v2 : Int32) : Prop := bg12_trade v12_in g12_in v12_isKept g12_isKept g12_trade_27 p v1 v2
noncomputable def bv12_cash (F215 : PM → Int32 → Int32 → Int32 → Int32) (p : PM) (v1 : Int32) : Int64 × PM :=
  if (F215 p v1 (cn 0) (cn 8)) = 0 then (
    let p1 : PM := pI p 12 1 0 (cn 1)
    if (p1.1 12 1 0) = 0 then (
      ((p1.2.1 14 1 (v1).toNatClampNeg), p1))
    else (
      ((cl 0), p1)))
  else (
    let p2 : PM := pI p 12 1 0 (cn 0)
    if (p2.1 12 1 0) = 0 then (
      ((p2.2.1 14 1 (v1).toNatClampNeg), p2))
    else (
      ((cl 0), p2)))
noncomputable def v12_cash (p : PM) (v1 : Int32) : Int64 × PM := bv12_cash v12_in p v1
noncomputable def bg12_cash (F215 : PM → Int32 → Int32 → Int32 → Int32) (G215 : PM → Int32 → Int32 → Int32 → Prop) (p : PM) (v1 : Int32) : Prop :=
  (G215 p v1 (cn 0) (cn 8)) ∧ (
  if (F215 p v1 (cn 0) (cn 8)) = 0 then (
    let p1 : PM := pI p 12 1 0 (cn 1)
    if (p1.1 12 1 0) = 0 then (
      (inb v1 9) ∧ (
      True))
    else (
      True))
  else (
    let p2 : PM := pI p 12 1 0 (cn 0)
    if (p2.1 12 1 0) = 0 then (
      (inb v1 9) ∧ (
      True))
    else (
      True)))
noncomputable def g12_cash (p : PM) (v1 : Int32) : Prop := bg12_cash v12_in g12_in p v1
noncomputable def bv12_quoted (F280 : PM → Int32 → Int32) (p : PM) (v1 : Int32) : Int32 × PM :=
  if (F280 p v1) = 0 then (
    let p1 : PM := pI p 12 1 0 (cn 1)
    if (p1.1 12 1 0) = 0 then (
      ((p1.1 13 5 (v1).toNatClampNeg), p1))
    else (
      ((cn 0), p1)))
  else (
    let p2 : PM := pI p 12 1 0 (cn 0)
    if (p2.1 12 1 0) = 0 then (
      ((p2.1 13 5 (v1).toNatClampNeg), p2))
    else (
      ((cn 0), p2)))
noncomputable def v12_quoted (p : PM) (v1 : Int32) : Int32 × PM := bv12_quoted v12_isAccount p v1
noncomputable def bg12_quoted (F280 : PM → Int32 → Int32) (G280 : PM → Int32 → Prop) (p : PM) (v1 : Int32) : Prop :=
  (G280 p v1) ∧ (
  if (F280 p v1) = 0 then (
    let p1 : PM := pI p 12 1 0 (cn 1)
    if (p1.1 12 1 0) = 0 then (
      (inb v1 8) ∧ (
      True))
    else (
      True))
  else (
    let p2 : PM := pI p 12 1 0 (cn 0)
    if (p2.1 12 1 0) = 0 then (
      (inb v1 8) ∧ (
      True))
    else (
      True)))
noncomputable def g12_quoted (p : PM) (v1 : Int32) : Prop := bg12_quoted v12_isAccount g12_isAccount p v1
noncomputable def bv12_member_29 (F276 : PM → Int32 → Int64) (F278 : PM → Int32 → Int64) (F307 : PM → Int32 → Int64 × PM) (p : PM) (v1 : Int32) (v2 : Int32) (s0 : Int32) : Int64 × PM :=
  let p1 : PM := pI p 12 1 0 s0
  if (p1.1 12 1 0) = 0 then (
    if v2 = 0 then (
      ((F276 p1 v1), p1))
    else (
      if v2 = (cn 1) then (
        ((F278 p1 v1), p1))
      else (
        if v2 = (cn 2) then (
          let r2 : Int64 × PM := F307 p1 v1
          (r2.1, r2.2))
        else (
          if v2 = (cn 3) then (
            (((p1.1 13 36 (v1).toNatClampNeg)).toInt64, p1))
          else (
            if v2 = (cn 4) then (
              (((p1.1 13 37 (v1).toNatClampNeg)).toInt64, p1))
            else (
              if v2 = (cn 5) then (
                (((p1.1 13 38 (v1).toNatClampNeg)).toInt64, p1))
              else (
                if (p1.1 15 9 (v1).toNatClampNeg) = 0 then (
                  ((cl 0), p1))
                else (
                  ((cl 1), p1)))))))))
  else (
    ((cl 0), p1))
noncomputable def v12_member_29 (p : PM) (v1 : Int32) (v2 : Int32) (s0 : Int32) : Int64 × PM := bv12_member_29 v12_risk v12_value v12_callOf p v1 v2 s0
noncomputable def bg12_member_29 (F276 : PM → Int32 → Int64) (G276 : PM → Int32 → Prop) (F278 : PM → Int32 → Int64) (G278 : PM → Int32 → Prop) (F307 : PM → Int32 → Int64 × PM) (G307 : PM → Int32 → Prop) (p : PM) (v1 : Int32) (v2 : Int32) (s0 : Int32) : Prop :=
  let p1 : PM := pI p 12 1 0 s0
  if (p1.1 12 1 0) = 0 then (
    if v2 = 0 then (
      (G276 p1 v1) ∧ (
      True))
    else (
      if v2 = (cn 1) then (
        (G278 p1 v1) ∧ (
        True))
      else (
        if v2 = (cn 2) then (
          (G307 p1 v1) ∧ (
          let r2 : Int64 × PM := F307 p1 v1
          True))
        else (
          if v2 = (cn 3) then (
            (inb v1 4) ∧ (
            True))
          else (
            if v2 = (cn 4) then (
              (inb v1 4) ∧ (
              True))
            else (
              if v2 = (cn 5) then (
                (inb v1 4) ∧ (
                True))
              else (
                (inb v1 4) ∧ (
                if (p1.1 15 9 (v1).toNatClampNeg) = 0 then (
                  True)
                else (
                  True)))))))))
  else (
    True)
noncomputable def g12_member_29 (p : PM) (v1 : Int32) (v2 : Int32) (s0 : Int32) : Prop := bg12_member_29 v12_risk g12_risk v12_value g12_value v12_callOf g12_callOf p v1 v2 s0
noncomputable def bv12_member (F215 : PM → Int32 → Int32 → Int32 → Int32) (kv29 : PM → Int32 → Int32 → Int32 → Int64 × PM) (p : PM) (v1 : Int32) (v2 : Int32) : Int64 × PM :=
  if (F215 p v1 (cn 0) (cn 3)) = 0 then (
    kv29 p v1 v2 (cn 1))
  else (
    if (F215 p v2 (cn 0) (cn 6)) = 0 then (
      kv29 p v1 v2 (cn 2))
    else (
      kv29 p v1 v2 (cn 0)))
noncomputable def v12_member (p : PM) (v1 : Int32) (v2 : Int32) : Int64 × PM := bv12_member v12_in v12_member_29 p v1 v2
noncomputable def bg12_member (F215 : PM → Int32 → Int32 → Int32 → Int32) (G215 : PM → Int32 → Int32 → Int32 → Prop) (kg29 : PM → Int32 → Int32 → Int32 → Prop) (p : PM) (v1 : Int32) (v2 : Int32) : Prop :=
  (G215 p v1 (cn 0) (cn 3)) ∧ (
  if (F215 p v1 (cn 0) (cn 3)) = 0 then (
    kg29 p v1 v2 (cn 1))
  else (
    (G215 p v2 (cn 0) (cn 6)) ∧ (
    if (F215 p v2 (cn 0) (cn 6)) = 0 then (
      kg29 p v1 v2 (cn 2))
    else (
      kg29 p v1 v2 (cn 0)))))
noncomputable def g12_member (p : PM) (v1 : Int32) (v2 : Int32) : Prop := bg12_member v12_in g12_in g12_member_29 p v1 v2
noncomputable def bv12_stake (p : PM) : Int32 × PM :=
  let p1 : PM := pI p 12 1 0 (cn 0)
  ((p1.1 12 1 58), p1)
noncomputable def v12_stake (p : PM) : Int32 × PM := bv12_stake p
noncomputable def bg12_stake (p : PM) : Prop :=
  let p1 : PM := pI p 12 1 0 (cn 0)
  True
noncomputable def g12_stake (p : PM) : Prop := bg12_stake p
