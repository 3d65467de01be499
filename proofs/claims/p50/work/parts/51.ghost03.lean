/-! the reference as functions, a ghost beside the class (text of wip/whole/lift.py, chosen by wip/p50/ghost.py) -/
noncomputable def g12_readyStop_4 (p : PM) (n : Nat) : Int32 → Int32 → Prop := Nat.rec (motive := fun _ => Int32 → Int32 → Prop) (fun _ _ => False) (fun _ ih => bg12_readyStop_4 p v12_isOpen g12_isOpen ih) n
theorem eg12_readyStop_4 (p : PM) (n : Nat) (v1 : Int32) (v2 : Int32) : g12_readyStop_4 p (n + 1) v1 v2 = bg12_readyStop_4 p v12_isOpen g12_isOpen (g12_readyStop_4 p n) v1 v2 := rfl
noncomputable def bv12_readyStop (p : PM) (kv4 : Int32 → Int32 → Int32) : Int32 :=
  kv4 (cn (-1)) (cn 0)
noncomputable def v12_readyStop (p : PM) : Int32 := bv12_readyStop p (v12_readyStop_4 p FU)
noncomputable def bg12_readyStop (p : PM) (kg4 : Int32 → Int32 → Prop) : Prop :=
  kg4 (cn (-1)) (cn 0)
noncomputable def g12_readyStop (p : PM) : Prop := bg12_readyStop p (g12_readyStop_4 p FU)
noncomputable def bv12_firstOf_27 (p : PM) (F241 : PM → Int32 → Int32 → Int32 → Int32 → Int32) (kv27 : Int32 → Int32 → Int32 → Int32 → Int32 → Int32) (v1 : Int32) (v2 : Int32) (v3 : Int32) (v4 : Int32) (v5 : Int32) : Int32 :=
  if v5 < (cn 44) then (
    if v3 = (cn (-100000)) then (
      v4)
    else (
      if (F241 p v5 v1 v2 v3) = 0 then (
        kv27 v1 v2 v3 v4 (v5 + (cn 1)))
      else (
        if (p.1 13 19 (v5).toNatClampNeg) = (cn 2) then (
          kv27 v1 v2 v3 v4 (v5 + (cn 1)))
        else (
          if v4 < 0 then (
            kv27 v1 v2 v3 v5 (v5 + (cn 1)))
          else (
            if (p.1 13 23 (v5).toNatClampNeg) < (p.1 13 23 (v4).toNatClampNeg) then (
              kv27 v1 v2 v3 v5 (v5 + (cn 1)))
            else (
              kv27 v1 v2 v3 v4 (v5 + (cn 1))))))))
  else (
    v4)
noncomputable def v12_firstOf_27 (p : PM) (n : Nat) : Int32 → Int32 → Int32 → Int32 → Int32 → Int32 := Nat.rec (motive := fun _ => Int32 → Int32 → Int32 → Int32 → Int32 → Int32) (fun _ _ _ _ _ => 0) (fun _ ih => bv12_firstOf_27 p v12_isAt ih) n
theorem ev12_firstOf_27 (p : PM) (n : Nat) (v1 : Int32) (v2 : Int32) (v3 : Int32) (v4 : Int32) (v5 : Int32) : v12_firstOf_27 p (n + 1) v1 v2 v3 v4 v5 = bv12_firstOf_27 p v12_isAt (v12_firstOf_27 p n) v1 v2 v3 v4 v5 := rfl
noncomputable def bg12_firstOf_27 (p : PM) (F241 : PM → Int32 → Int32 → Int32 → Int32 → Int32) (G241 : PM → Int32 → Int32 → Int32 → Int32 → Prop) (kg27 : Int32 → Int32 → Int32 → Int32 → Int32 → Prop) (v1 : Int32) (v2 : Int32) (v3 : Int32) (v4 : Int32) (v5 : Int32) : Prop :=
  if v5 < (cn 44) then (
    if v3 = (cn (-100000)) then (
      True)
    else (
      (G241 p v5 v1 v2 v3) ∧ (
      if (F241 p v5 v1 v2 v3) = 0 then (
        kg27 v1 v2 v3 v4 (v5 + (cn 1)))
      else (
        (inb v5 44) ∧ (
        if (p.1 13 19 (v5).toNatClampNeg) = (cn 2) then (
          kg27 v1 v2 v3 v4 (v5 + (cn 1)))
        else (
          if v4 < 0 then (
            kg27 v1 v2 v3 v5 (v5 + (cn 1)))
          else (
            (inb v5 44) ∧ (
            (inb v4 44) ∧ (
            if (p.1 13 23 (v5).toNatClampNeg) < (p.1 13 23 (v4).toNatClampNeg) then (
              kg27 v1 v2 v3 v5 (v5 + (cn 1)))
            else (
              kg27 v1 v2 v3 v4 (v5 + (cn 1))))))))))))
  else (
    True)
noncomputable def g12_firstOf_27 (p : PM) (n : Nat) : Int32 → Int32 → Int32 → Int32 → Int32 → Prop := Nat.rec (motive := fun _ => Int32 → Int32 → Int32 → Int32 → Int32 → Prop) (fun _ _ _ _ _ => False) (fun _ ih => bg12_firstOf_27 p v12_isAt g12_isAt ih) n
theorem eg12_firstOf_27 (p : PM) (n : Nat) (v1 : Int32) (v2 : Int32) (v3 : Int32) (v4 : Int32) (v5 : Int32) : g12_firstOf_27 p (n + 1) v1 v2 v3 v4 v5 = bg12_firstOf_27 p v12_isAt g12_isAt (g12_firstOf_27 p n) v1 v2 v3 v4 v5 := rfl
noncomputable def bv12_firstOf (p : PM) (F218 : PM → Int32 → Int32) (F240 : PM → Int32 → Int32 → Int32 → Int32) (kv27 : Int32 → Int32 → Int32 → Int32 → Int32 → Int32) (v1 : Int32) (v2 : Int32) : Int32 :=
  if (F218 p v1) = 0 then (
    kv27 v1 v2 (cn (-100000)) (cn (-1)) (cn 0))
  else (
    let x1 : Int32 := (F240 p v1 v2 (cn 0))
    kv27 v1 v2 x1 (cn (-1)) (cn 0))
noncomputable def v12_firstOf (p : PM) (v1 : Int32) (v2 : Int32) : Int32 := bv12_firstOf p v12_isOpen v12_bestOf (v12_firstOf_27 p FU) v1 v2
noncomputable def bg12_firstOf (p : PM) (F218 : PM → Int32 → Int32) (G218 : PM → Int32 → Prop) (F240 : PM → Int32 → Int32 → Int32 → Int32) (G240 : PM → Int32 → Int32 → Int32 → Prop) (kg27 : Int32 → Int32 → Int32 → Int32 → Int32 → Prop) (v1 : Int32) (v2 : Int32) : Prop :=
  (G218 p v1) ∧ (
  if (F218 p v1) = 0 then (
    kg27 v1 v2 (cn (-100000)) (cn (-1)) (cn 0))
  else (
    (G240 p v1 v2 (cn 0)) ∧ (
    let x1 : Int32 := (F240 p v1 v2 (cn 0))
    kg27 v1 v2 x1 (cn (-1)) (cn 0))))
noncomputable def g12_firstOf (p : PM) (v1 : Int32) (v2 : Int32) : Prop := bg12_firstOf p v12_isOpen g12_isOpen v12_bestOf g12_bestOf (g12_firstOf_27 p FU) v1 v2
noncomputable def bv12_canDeal (p : PM) (F219 : PM → Int32 → Int32 → Int32) (F220 : PM → Int32 → Int32 → Int32) (v1 : Int32) (v2 : Int32) (v3 : Int32) (v4 : Int32) : Int32 :=
  if (F219 p v1 v4) = 0 then (
    (cn 0))
  else (
    if (F220 p v1 v4) = 0 then (
      (cn 0))
    else (
      if (p.1 13 8 (v1).toNatClampNeg) = 0 then (
        (cn 1))
      else (
        if ((p.1 13 15 (v2).toNatClampNeg) / (cn 2)) = ((p.1 13 15 (v3).toNatClampNeg) / (cn 2)) then (
          (cn 0))
        else (
          (cn 1)))))
noncomputable def v12_canDeal (p : PM) (v1 : Int32) (v2 : Int32) (v3 : Int32) (v4 : Int32) : Int32 := bv12_canDeal p v12_isPrice v12_isNear v1 v2 v3 v4
noncomputable def bg12_canDeal (p : PM) (F219 : PM → Int32 → Int32 → Int32) (G219 : PM → Int32 → Int32 → Prop) (F220 : PM → Int32 → Int32 → Int32) (G220 : PM → Int32 → Int32 → Prop) (v1 : Int32) (v2 : Int32) (v3 : Int32) (v4 : Int32) : Prop :=
  (G219 p v1 v4) ∧ (
  if (F219 p v1 v4) = 0 then (
    True)
  else (
    (G220 p v1 v4) ∧ (
    if (F220 p v1 v4) = 0 then (
      True)
    else (
      (inb v1 6) ∧ (
      if (p.1 13 8 (v1).toNatClampNeg) = 0 then (
        True)
      else (
        (inb v2 44) ∧ (
        (inb v3 44) ∧ (
        if ((p.1 13 15 (v2).toNatClampNeg) / (cn 2)) = ((p.1 13 15 (v3).toNatClampNeg) / (cn 2)) then (
          True)
        else (
          True)))))))))
noncomputable def g12_canDeal (p : PM) (v1 : Int32) (v2 : Int32) (v3 : Int32) (v4 : Int32) : Prop := bg12_canDeal p v12_isPrice g12_isPrice v12_isNear g12_isNear v1 v2 v3 v4
noncomputable def bv12_falls1 (F225 : PM → Int32 → PM) (F227 : PM → Int32 → PM) (F236 : PM → Int32 → Int32 → Int32 → PM) (p : PM) (v1 : Int32) (v2 : Int32) : PM :=
  let p1 : PM := F236 p v1 v2 (cn 1)
  if (p1.1 15 3 (v1).toNatClampNeg) = 0 then (
    p1)
  else (
    if (p1.1 13 19 (v1).toNatClampNeg) = (cn 1) then (
      if (p1.1 13 22 (v1).toNatClampNeg) = 0 then (
        let p2 : PM := F227 p1 v1
        let p3 : PM := F225 p2 v1
        p3)
      else (
        p1))
    else (
      p1))
noncomputable def v12_falls1 (p : PM) (v1 : Int32) (v2 : Int32) : PM := bv12_falls1 v12_newTurn v12_showsAnew v12_falls p v1 v2
noncomputable def bg12_falls1 (F225 : PM → Int32 → PM) (G225 : PM → Int32 → Prop) (F227 : PM → Int32 → PM) (G227 : PM → Int32 → Prop) (F236 : PM → Int32 → Int32 → Int32 → PM) (G236 : PM → Int32 → Int32 → Int32 → Prop) (p : PM) (v1 : Int32) (v2 : Int32) : Prop :=
  (G236 p v1 v2 (cn 1)) ∧ (
  let p1 : PM := F236 p v1 v2 (cn 1)
  (inb v1 44) ∧ (
  if (p1.1 15 3 (v1).toNatClampNeg) = 0 then (
    True)
  else (
    (inb v1 44) ∧ (
    if (p1.1 13 19 (v1).toNatClampNeg) = (cn 1) then (
      (inb v1 44) ∧ (
      if (p1.1 13 22 (v1).toNatClampNeg) = 0 then (
        (G227 p1 v1) ∧ (
        let p2 : PM := F227 p1 v1
        (G225 p2 v1) ∧ (
        let p3 : PM := F225 p2 v1
        True)))
      else (
        True)))
    else (
      True)))))
noncomputable def g12_falls1 (p : PM) (v1 : Int32) (v2 : Int32) : Prop := bg12_falls1 v12_newTurn g12_newTurn v12_showsAnew g12_showsAnew v12_falls g12_falls p v1 v2
noncomputable def bv12_joins_53 (p : PM) : Int32 × PM :=
  ((cn 0), p)
noncomputable def v12_joins_53 (p : PM) : Int32 × PM := bv12_joins_53 p
noncomputable def bg12_joins_53 (p : PM) : Prop :=
  True
noncomputable def g12_joins_53 (p : PM) : Prop := bg12_joins_53 p
noncomputable def bv12_joins_197 (p : PM) (v2 : Int32) (v3 : Int32) (v4 : Int32) (v5 : Int32) (v6 : Int32) (v8 : Int32) (v9 : Int32) : Int32 × PM :=
  ((cn 0), p)
noncomputable def v12_joins_197 (p : PM) (v2 : Int32) (v3 : Int32) (v4 : Int32) (v5 : Int32) (v6 : Int32) (v8 : Int32) (v9 : Int32) : Int32 × PM := bv12_joins_197 p v2 v3 v4 v5 v6 v8 v9
noncomputable def bg12_joins_197 (p : PM) (v2 : Int32) (v3 : Int32) (v4 : Int32) (v5 : Int32) (v6 : Int32) (v8 : Int32) (v9 : Int32) : Prop :=
  True
noncomputable def g12_joins_197 (p : PM) (v2 : Int32) (v3 : Int32) (v4 : Int32) (v5 : Int32) (v6 : Int32) (v8 : Int32) (v9 : Int32) : Prop := bg12_joins_197 p v2 v3 v4 v5 v6 v8 v9
noncomputable def bv12_joins_258 (F233 : PM → Int32 → Int32 → Int32 → Int32 → Int32 → PM) (F237 : PM → Int32 → PM) (F261 : PM → Int32 → Int32 → PM) (p : PM) (v2 : Int32) (v3 : Int32) (v4 : Int32) (v5 : Int32) (v6 : Int32) (v8 : Int32) (v9 : Int32) (v11 : Int32) (s0 : Int32) (s1 : Int32) : Int32 × PM :=
  if v2 = 0 then (
    let p1 : PM := F233 p s1 s0 (p.1 13 15 (v4).toNatClampNeg) v8 v11
    if v2 = 0 then (
      if v2 = 0 then (
        let p2 : PM := F233 p1 (v3 + (cn 1)) (p1.1 13 15 (v4).toNatClampNeg) (p1.1 13 15 (v6).toNatClampNeg) v9 v11
        let p3 : PM := F261 p2 v4 v11
        let p4 : PM := F261 p3 v5 v11
        let p5 : PM := F261 p4 v6 v11
        let p6 : PM := F237 p5 v4
        let p7 : PM := F237 p6 v5
        let p8 : PM := F237 p7 v6
        ((cn 1), p8))
      else (
        let p9 : PM := F233 p1 (v3 + (cn 1)) (p1.1 13 15 (v4).toNatClampNeg) (p1.1 13 15 (v4).toNatClampNeg) v9 v11
        let p10 : PM := F261 p9 v4 v11
        let p11 : PM := F261 p10 v5 v11
        let p12 : PM := F261 p11 v6 v11
        let p13 : PM := F237 p12 v4
        let p14 : PM := F237 p13 v5
        let p15 : PM := F237 p14 v6
        ((cn 1), p15)))
    else (
      if v2 = 0 then (
        let p16 : PM := F233 p1 (v3 + (cn 1)) (p1.1 13 15 (v6).toNatClampNeg) (p1.1 13 15 (v6).toNatClampNeg) v9 v11
        let p17 : PM := F261 p16 v4 v11
        let p18 : PM := F261 p17 v5 v11
        let p19 : PM := F261 p18 v6 v11
        let p20 : PM := F237 p19 v4
        let p21 : PM := F237 p20 v5
        let p22 : PM := F237 p21 v6
        ((cn 1), p22))
      else (
        let p23 : PM := F233 p1 (v3 + (cn 1)) (p1.1 13 15 (v6).toNatClampNeg) (p1.1 13 15 (v4).toNatClampNeg) v9 v11
        let p24 : PM := F261 p23 v4 v11
        let p25 : PM := F261 p24 v5 v11
        let p26 : PM := F261 p25 v6 v11
        let p27 : PM := F237 p26 v4
        let p28 : PM := F237 p27 v5
        let p29 : PM := F237 p28 v6
        ((cn 1), p29))))
  else (
    let p30 : PM := F233 p s1 s0 (p.1 13 15 (v5).toNatClampNeg) v8 v11
    if v2 = 0 then (
      if v2 = 0 then (
        let p31 : PM := F233 p30 (v3 + (cn 1)) (p30.1 13 15 (v4).toNatClampNeg) (p30.1 13 15 (v6).toNatClampNeg) v9 v11
        let p32 : PM := F261 p31 v4 v11
        let p33 : PM := F261 p32 v5 v11
        let p34 : PM := F261 p33 v6 v11
        let p35 : PM := F237 p34 v4
        let p36 : PM := F237 p35 v5
        let p37 : PM := F237 p36 v6
        ((cn 1), p37))
      else (
        let p38 : PM := F233 p30 (v3 + (cn 1)) (p30.1 13 15 (v4).toNatClampNeg) (p30.1 13 15 (v4).toNatClampNeg) v9 v11
        let p39 : PM := F261 p38 v4 v11
        let p40 : PM := F261 p39 v5 v11
        let p41 : PM := F261 p40 v6 v11
        let p42 : PM := F237 p41 v4
        let p43 : PM := F237 p42 v5
        let p44 : PM := F237 p43 v6
        ((cn 1), p44)))
    else (
      if v2 = 0 then (
        let p45 : PM := F233 p30 (v3 + (cn 1)) (p30.1 13 15 (v6).toNatClampNeg) (p30.1 13 15 (v6).toNatClampNeg) v9 v11
        let p46 : PM := F261 p45 v4 v11
        let p47 : PM := F261 p46 v5 v11
        let p48 : PM := F261 p47 v6 v11
        let p49 : PM := F237 p48 v4
        let p50 : PM := F237 p49 v5
        let p51 : PM := F237 p50 v6
        ((cn 1), p51))
      else (
        let p52 : PM := F233 p30 (v3 + (cn 1)) (p30.1 13 15 (v6).toNatClampNeg) (p30.1 13 15 (v4).toNatClampNeg) v9 v11
        let p53 : PM := F261 p52 v4 v11
        let p54 : PM := F261 p53 v5 v11
        let p55 : PM := F261 p54 v6 v11
        let p56 : PM := F237 p55 v4
        let p57 : PM := F237 p56 v5
        let p58 : PM := F237 p57 v6
        ((cn 1), p58))))
noncomputable def v12_joins_258 (p : PM) (v2 : Int32) (v3 : Int32) (v4 : Int32) (v5 : Int32) (v6 : Int32) (v8 : Int32) (v9 : Int32) (v11 : Int32) (s0 : Int32) (s1 : Int32) : Int32 × PM := bv12_joins_258 v12_deals v12_guards v12_falls1 p v2 v3 v4 v5 v6 v8 v9 v11 s0 s1
noncomputable def bg12_joins_258 (F233 : PM → Int32 → Int32 → Int32 → Int32 → Int32 → PM) (G233 : PM → Int32 → Int32 → Int32 → Int32 → Int32 → Prop) (F237 : PM → Int32 → PM) (G237 : PM → Int32 → Prop) (F261 : PM → Int32 → Int32 → PM) (G261 : PM → Int32 → Int32 → Prop) (p : PM) (v2 : Int32) (v3 : Int32) (v4 : Int32) (v5 : Int32) (v6 : Int32) (v8 : Int32) (v9 : Int32) (v11 : Int32) (s0 : Int32) (s1 : Int32) : Prop :=
  if v2 = 0 then (
    (inb v4 44) ∧ (
    (G233 p s1 s0 (p.1 13 15 (v4).toNatClampNeg) v8 v11) ∧ (
    let p1 : PM := F233 p s1 s0 (p.1 13 15 (v4).toNatClampNeg) v8 v11
    if v2 = 0 then (
      (inb v4 44) ∧ (
      if v2 = 0 then (
        (inb v6 44) ∧ (
        (G233 p1 (v3 + (cn 1)) (p1.1 13 15 (v4).toNatClampNeg) (p1.1 13 15 (v6).toNatClampNeg) v9 v11) ∧ (
        let p2 : PM := F233 p1 (v3 + (cn 1)) (p1.1 13 15 (v4).toNatClampNeg) (p1.1 13 15 (v6).toNatClampNeg) v9 v11
        (G261 p2 v4 v11) ∧ (
        let p3 : PM := F261 p2 v4 v11
        (G261 p3 v5 v11) ∧ (
        let p4 : PM := F261 p3 v5 v11
        (G261 p4 v6 v11) ∧ (
        let p5 : PM := F261 p4 v6 v11
        (G237 p5 v4) ∧ (
        let p6 : PM := F237 p5 v4
        (G237 p6 v5) ∧ (
        let p7 : PM := F237 p6 v5
        (G237 p7 v6) ∧ (
        let p8 : PM := F237 p7 v6
        True)))))))))
      else (
        (inb v4 44) ∧ (
        (G233 p1 (v3 + (cn 1)) (p1.1 13 15 (v4).toNatClampNeg) (p1.1 13 15 (v4).toNatClampNeg) v9 v11) ∧ (
        let p9 : PM := F233 p1 (v3 + (cn 1)) (p1.1 13 15 (v4).toNatClampNeg) (p1.1 13 15 (v4).toNatClampNeg) v9 v11
        (G261 p9 v4 v11) ∧ (
        let p10 : PM := F261 p9 v4 v11
        (G261 p10 v5 v11) ∧ (
        let p11 : PM := F261 p10 v5 v11
        (G261 p11 v6 v11) ∧ (
        let p12 : PM := F261 p11 v6 v11
        (G237 p12 v4) ∧ (
        let p13 : PM := F237 p12 v4
        (G237 p13 v5) ∧ (
        let p14 : PM := F237 p13 v5
        (G237 p14 v6) ∧ (
        let p15 : PM := F237 p14 v6
        True)))))))))))
    else (
      (inb v6 44) ∧ (
      if v2 = 0 then (
        (inb v6 44) ∧ (
        (G233 p1 (v3 + (cn 1)) (p1.1 13 15 (v6).toNatClampNeg) (p1.1 13 15 (v6).toNatClampNeg) v9 v11) ∧ (
        let p16 : PM := F233 p1 (v3 + (cn 1)) (p1.1 13 15 (v6).toNatClampNeg) (p1.1 13 15 (v6).toNatClampNeg) v9 v11
        (G261 p16 v4 v11) ∧ (
        let p17 : PM := F261 p16 v4 v11
        (G261 p17 v5 v11) ∧ (
        let p18 : PM := F261 p17 v5 v11
        (G261 p18 v6 v11) ∧ (
        let p19 : PM := F261 p18 v6 v11
        (G237 p19 v4) ∧ (
        let p20 : PM := F237 p19 v4
        (G237 p20 v5) ∧ (
        let p21 : PM := F237 p20 v5
        (G237 p21 v6) ∧ (
        let p22 : PM := F237 p21 v6
        True)))))))))
      else (
        (inb v4 44) ∧ (
        (G233 p1 (v3 + (cn 1)) (p1.1 13 15 (v6).toNatClampNeg) (p1.1 13 15 (v4).toNatClampNeg) v9 v11) ∧ (
        let p23 : PM := F233 p1 (v3 + (cn 1)) (p1.1 13 15 (v6).toNatClampNeg) (p1.1 13 15 (v4).toNatClampNeg) v9 v11
        (G261 p23 v4 v11) ∧ (
        let p24 : PM := F261 p23 v4 v11
        (G261 p24 v5 v11) ∧ (
        let p25 : PM := F261 p24 v5 v11
        (G261 p25 v6 v11) ∧ (
        let p26 : PM := F261 p25 v6 v11
        (G237 p26 v4) ∧ (
        let p27 : PM := F237 p26 v4
        (G237 p27 v5) ∧ (
        let p28 : PM := F237 p27 v5
        (G237 p28 v6) ∧ (
        let p29 : PM := F237 p28 v6
        True))))))))))))))
  else (
    (inb v5 44) ∧ (
    (G233 p s1 s0 (p.1 13 15 (v5).toNatClampNeg) v8 v11) ∧ (
    let p30 : PM := F233 p s1 s0 (p.1 13 15 (v5).toNatClampNeg) v8 v11
    if v2 = 0 then (
      (inb v4 44) ∧ (
      if v2 = 0 then (
        (inb v6 44) ∧ (
        (G233 p30 (v3 + (cn 1)) (p30.1 13 15 (v4).toNatClampNeg) (p30.1 13 15 (v6).toNatClampNeg) v9 v11) ∧ (
        let p31 : PM := F233 p30 (v3 + (cn 1)) (p30.1 13 15 (v4).toNatClampNeg) (p30.1 13 15 (v6).toNatClampNeg) v9 v11
        (G261 p31 v4 v11) ∧ (
        let p32 : PM := F261 p31 v4 v11
        (G261 p32 v5 v11) ∧ (
        let p33 : PM := F261 p32 v5 v11
        (G261 p33 v6 v11) ∧ (
        let p34 : PM := F261 p33 v6 v11
        (G237 p34 v4) ∧ (
        let p35 : PM := F237 p34 v4
        (G237 p35 v5) ∧ (
        let p36 : PM := F237 p35 v5
        (G237 p36 v6) ∧ (
        let p37 : PM := F237 p36 v6
        True)))))))))
      else (
        (inb v4 44) ∧ (
        (G233 p30 (v3 + (cn 1)) (p30.1 13 15 (v4).toNatClampNeg) (p30.1 13 15 (v4).toNatClampNeg) v9 v11) ∧ (
        let p38 : PM := F233 p30 (v3 + (cn 1)) (p30.1 13 15 (v4).toNatClampNeg) (p30.1 13 15 (v4).toNatClampNeg) v9 v11
        (G261 p38 v4 v11) ∧ (
        let p39 : PM := F261 p38 v4 v11
        (G261 p39 v5 v11) ∧ (
        let p40 : PM := F261 p39 v5 v11
        (G261 p40 v6 v11) ∧ (
        let p41 : PM := F261 p40 v6 v11
        (G237 p41 v4) ∧ (
        let p42 : PM := F237 p41 v4
        (G237 p42 v5) ∧ (
        let p43 : PM := F237 p42 v5
        (G237 p43 v6) ∧ (
        let p44 : PM := F237 p43 v6
        True)))))))))))
    else (
      (inb v6 44) ∧ (
      if v2 = 0 then (
        (inb v6 44) ∧ (
        (G233 p30 (v3 + (cn 1)) (p30.1 13 15 (v6).toNatClampNeg) (p30.1 13 15 (v6).toNatClampNeg) v9 v11) ∧ (
        let p45 : PM := F233 p30 (v3 + (cn 1)) (p30.1 13 15 (v6).toNatClampNeg) (p30.1 13 15 (v6).toNatClampNeg) v9 v11
        (G261 p45 v4 v11) ∧ (
        let p46 : PM := F261 p45 v4 v11
        (G261 p46 v5 v11) ∧ (
        let p47 : PM := F261 p46 v5 v11
        (G261 p47 v6 v11) ∧ (
        let p48 : PM := F261 p47 v6 v11
        (G237 p48 v4) ∧ (
        let p49 : PM := F237 p48 v4
        (G237 p49 v5) ∧ (
        let p50 : PM := F237 p49 v5
        (G237 p50 v6) ∧ (
        let p51 : PM := F237 p50 v6
        True)))))))))
      else (
        (inb v4 44) ∧ (
        (G233 p30 (v3 + (cn 1)) (p30.1 13 15 (v6).toNatClampNeg) (p30.1 13 15 (v4).toNatClampNeg) v9 v11) ∧ (
        let p52 : PM := F233 p30 (v3 + (cn 1)) (p30.1 13 15 (v6).toNatClampNeg) (p30.1 13 15 (v4).toNatClampNeg) v9 v11
        (G261 p52 v4 v11) ∧ (
        let p53 : PM := F261 p52 v4 v11
        (G261 p53 v5 v11) ∧ (
        let p54 : PM := F261 p53 v5 v11
        (G261 p54 v6 v11) ∧ (
        let p55 : PM := F261 p54 v6 v11
        (G237 p55 v4) ∧ (
        let p56 : PM := F237 p55 v4
        (G237 p56 v5) ∧ (
        let p57 : PM := F237 p56 v5
        (G237 p57 v6) ∧ (
        let p58 : PM := F237 p57 v6
        True))))))))))))))
noncomputable def g12_joins_258 (p : PM) (v2 : Int32) (v3 : Int32) (v4 : Int32) (v5 : Int32) (v6 : Int32) (v8 : Int32) (v9 : Int32) (v11 : Int32) (s0 : Int32) (s1 : Int32) : Prop := bg12_joins_258 v12_deals g12_deals v12_guards g12_guards v12_falls1 g12_falls1 p v2 v3 v4 v5 v6 v8 v9 v11 s0 s1
noncomputable def bv12_joins_119 (F226 : PM → Int32 → Int32) (F244 : PM → Int32 → Int32 → Int32) (F260 : PM → Int32 → Int32 → Int32 → Int32 → Int32) (kv197 : PM → Int32 → Int32 → Int32 → Int32 → Int32 → Int32 → Int32 → Int32 × PM) (kv258 : PM → Int32 → Int32 → Int32 → Int32 → Int32 → Int32 → Int32 → Int32 → Int32 → Int32 → Int32 × PM) (p : PM) (v2 : Int32) (v3 : Int32) (v4 : Int32) (v5 : Int32) (v6 : Int32) (v8 : Int32) (v9 : Int32) (s0 : Int32) : Int32 × PM :=
  if s0 = 0 then (
    kv197 p v2 v3 v4 v5 v6 v8 v9)
  else (
    if v2 = 0 then (
      if (F260 p v3 v5 v4 v8) = 0 then (
        kv197 p v2 v3 v4 v5 v6 v8 v9)
      else (
        if (F260 p (v3 + (cn 1)) v4 v6 v9) = 0 then (
          kv197 p v2 v3 v4 v5 v6 v8 v9)
        else (
          let x1 : Int32 := (F244 p (F226 p v4) (F244 p (F226 p v5) (F226 p v6)))
          if v2 = 0 then (
            kv258 p v2 v3 v4 v5 v6 v8 v9 x1 (p.1 13 15 (v5).toNatClampNeg) v3)
          else (
            kv258 p v2 v3 v4 v5 v6 v8 v9 x1 (p.1 13 15 (v4).toNatClampNeg) v3))))
    else (
      if (F260 p v3 v4 v5 v8) = 0 then (
        kv197 p v2 v3 v4 v5 v6 v8 v9)
      else (
        if (F260 p (v3 + (cn 1)) v6 v4 v9) = 0 then (
          kv197 p v2 v3 v4 v5 v6 v8 v9)
        else (
          let x2 : Int32 := (F244 p (F226 p v4) (F244 p (F226 p v5) (F226 p v6)))
          if v2 = 0 then (
            kv258 p v2 v3 v4 v5 v6 v8 v9 x2 (p.1 13 15 (v5).toNatClampNeg) v3)
          else (
            kv258 p v2 v3 v4 v5 v6 v8 v9 x2 (p.1 13 15 (v4).toNatClampNeg) v3)))))
noncomputable def v12_joins_119 (p : PM) (v2 : Int32) (v3 : Int32) (v4 : Int32) (v5 : Int32) (v6 : Int32) (v8 : Int32) (v9 : Int32) (s0 : Int32) : Int32 × PM := bv12_joins_119 v12_showsNow v12_least v12_canDeal v12_joins_197 v12_joins_258 p v2 v3 v4 v5 v6 v8 v9 s0
noncomputable def bg12_joins_119 (F226 : PM → Int32 → Int32) (G226 : PM → Int32 → Prop) (F244 : PM → Int32 → Int32 → Int32) (G244 : PM → Int32 → Int32 → Prop) (F260 : PM → Int32 → Int32 → Int32 → Int32 → Int32) (G260 : PM → Int32 → Int32 → Int32 → Int32 → Prop) (kg197 : PM → Int32 → Int32 → Int32 → Int32 → Int32 → Int32 → Int32 → Prop) (kg258 : PM → Int32 → Int32 → Int32 → Int32 → Int32 → Int32 → Int32 → Int32 → Int32 → Int32 → Prop) (p : PM) (v2 : Int32) (v3 : Int32) (v4 : Int32) (v5 : Int32) (v6 : Int32) (v8 : Int32) (v9 : Int32) (s0 : Int32) : Prop :=
  if s0 = 0 then (
    kg197 p v2 v3 v4 v5 v6 v8 v9)
  else (
    if v2 = 0 then (
      (G260 p v3 v5 v4 v8) ∧ (
      if (F260 p v3 v5 v4 v8) = 0 then (
        kg197 p v2 v3 v4 v5 v6 v8 v9)
      else (
        (G260 p (v3 + (cn 1)) v4 v6 v9) ∧ (
        if (F260 p (v3 + (cn 1)) v4 v6 v9) = 0 then (
          kg197 p v2 v3 v4 v5 v6 v8 v9)
        else (
          (G226 p v4) ∧ (
          (G226 p v5) ∧ (
          (G226 p v6) ∧ (
          (G244 p (F226 p v5) (F226 p v6)) ∧ (
          (G244 p (F226 p v4) (F244 p (F226 p v5) (F226 p v6))) ∧ (
          let x1 : Int32 := (F244 p (F226 p v4) (F244 p (F226 p v5) (F226 p v6)))
          if v2 = 0 then (
            (inb v5 44) ∧ (
            kg258 p v2 v3 v4 v5 v6 v8 v9 x1 (p.1 13 15 (v5).toNatClampNeg) v3))
          else (
            (inb v4 44) ∧ (
            kg258 p v2 v3 v4 v5 v6 v8 v9 x1 (p.1 13 15 (v4).toNatClampNeg) v3))))))))))))
    else (
      (G260 p v3 v4 v5 v8) ∧ (
      if (F260 p v3 v4 v5 v8) = 0 then (
        kg197 p v2 v3 v4 v5 v6 v8 v9)
      else (
        (G260 p (v3 + (cn 1)) v6 v4 v9) ∧ (
        if (F260 p (v3 + (cn 1)) v6 v4 v9) = 0 then (
          kg197 p v2 v3 v4 v5 v6 v8 v9)
        else (
          (G226 p v4) ∧ (
          (G226 p v5) ∧ (
          (G226 p v6) ∧ (
          (G244 p (F226 p v5) (F226 p v6)) ∧ (
          (G244 p (F226 p v4) (F244 p (F226 p v5) (F226 p v6))) ∧ (
          let x2 : Int32 := (F244 p (F226 p v4) (F244 p (F226 p v5) (F226 p v6)))
          if v2 = 0 then (
            (inb v5 44) ∧ (
            kg258 p v2 v3 v4 v5 v6 v8 v9 x2 (p.1 13 15 (v5).toNatClampNeg) v3))
          else (
            (inb v4 44) ∧ (
            kg258 p v2 v3 v4 v5 v6 v8 v9 x2 (p.1 13 15 (v4).toNatClampNeg) v3)))))))))))))
noncomputable def g12_joins_119 (p : PM) (v2 : Int32) (v3 : Int32) (v4 : Int32) (v5 : Int32) (v6 : Int32) (v8 : Int32) (v9 : Int32) (s0 : Int32) : Prop := bg12_joins_119 v12_showsNow g12_showsNow v12_least g12_least v12_canDeal g12_canDeal g12_joins_197 g12_joins_258 p v2 v3 v4 v5 v6 v8 v9 s0
noncomputable def bv12_joins (F259 : PM → Int32 → Int32 → Int32) (kv53 : PM → Int32 × PM) (kv119 : PM → Int32 → Int32 → Int32 → Int32 → Int32 → Int32 → Int32 → Int32 → Int32 × PM) (p : PM) (v1 : Int32) (v2 : Int32) : Int32 × PM :=
  if v2 = 0 then (
    let x6 : Int32 := (F259 p (v1 - (cn 4)) (cn 1))
    let x7 : Int32 := (F259 p ((v1 - (cn 4)) + (cn 1)) v2)
    if (F259 p v1 v2) < 0 then (
      kv53 p)
    else (
      if x6 < 0 then (
        kv53 p)
      else (
        if x7 < 0 then (
          kv53 p)
        else (
          let x8 : Int32 := (p.1 13 25 ((F259 p v1 v2)).toNatClampNeg)
          let x9 : Int32 := (p.1 13 25 (x6).toNatClampNeg)
          let x10 : Int32 := (p.1 13 25 (x7).toNatClampNeg)
          if v2 = 0 then (
            if (x9 - x10) < x8 then (
              kv119 p v2 (v1 - (cn 4)) (F259 p v1 v2) x6 x7 x9 x10 (cn 0))
            else (
              kv119 p v2 (v1 - (cn 4)) (F259 p v1 v2) x6 x7 x9 x10 (cn 1)))
          else (
            if x8 < (x9 - x10) then (
              kv119 p v2 (v1 - (cn 4)) (F259 p v1 v2) x6 x7 x9 x10 (cn 0))
            else (
              kv119 p v2 (v1 - (cn 4)) (F259 p v1 v2) x6 x7 x9 x10 (cn 1)))))))
  else (
    let x1 : Int32 := (F259 p (v1 - (cn 4)) (cn 0))
    let x2 : Int32 := (F259 p ((v1 - (cn 4)) + (cn 1)) v2)
    if (F259 p v1 v2) < 0 then (
      kv53 p)
    else (
      if x1 < 0 then (
        kv53 p)
      else (
        if x2 < 0 then (
          kv53 p)
        else (
          let x3 : Int32 := (p.1 13 25 ((F259 p v1 v2)).toNatClampNeg)
          let x4 : Int32 := (p.1 13 25 (x1).toNatClampNeg)
          let x5 : Int32 := (p.1 13 25 (x2).toNatClampNeg)
          if v2 = 0 then (
            if (x4 - x5) < x3 then (
              kv119 p v2 (v1 - (cn 4)) (F259 p v1 v2) x1 x2 x4 x5 (cn 0))
            else (
              kv119 p v2 (v1 - (cn 4)) (F259 p v1 v2) x1 x2 x4 x5 (cn 1)))
          else (
            if x3 < (x4 - x5) then (
              kv119 p v2 (v1 - (cn 4)) (F259 p v1 v2) x1 x2 x4 x5 (cn 0))
            else (
              kv119 p v2 (v1 - (cn 4)) (F259 p v1 v2) x1 x2 x4 x5 (cn 1)))))))
noncomputable def v12_joins (p : PM) (v1 : Int32) (v2 : Int32) : Int32 × PM := bv12_joins v12_firstOf v12_joins_53 v12_joins_119 p v1 v2
noncomputable def bg12_joins (F259 : PM → Int32 → Int32 → Int32) (G259 : PM → Int32 → Int32 → Prop) (kg53 : PM → Prop) (kg119 : PM → Int32 → Int32 → Int32 → Int32 → Int32 → Int32 → Int32 → Int32 → Prop) (p : PM) (v1 : Int32) (v2 : Int32) : Prop :=
  (G259 p v1 v2) ∧ (
  if v2 = 0 then (
    (G259 p (v1 - (cn 4)) (cn 1)) ∧ (
    let x6 : Int32 := (F259 p (v1 - (cn 4)) (cn 1))
    (G259 p ((v1 - (cn 4)) + (cn 1)) v2) ∧ (
    let x7 : Int32 := (F259 p ((v1 - (cn 4)) + (cn 1)) v2)
    if (F259 p v1 v2) < 0 then (
      kg53 p)
    else (
      if x6 < 0 then (
        kg53 p)
      else (
        if x7 < 0 then (
          kg53 p)
        else (
          (inb (F259 p v1 v2) 44) ∧ (
          let x8 : Int32 := (p.1 13 25 ((F259 p v1 v2)).toNatClampNeg)
          (inb x6 44) ∧ (
          let x9 : Int32 := (p.1 13 25 (x6).toNatClampNeg)
          (inb x7 44) ∧ (
          let x10 : Int32 := (p.1 13 25 (x7).toNatClampNeg)
          if v2 = 0 then (
            if (x9 - x10) < x8 then (
              kg119 p v2 (v1 - (cn 4)) (F259 p v1 v2) x6 x7 x9 x10 (cn 0))
            else (
              kg119 p v2 (v1 - (cn 4)) (F259 p v1 v2) x6 x7 x9 x10 (cn 1)))
          else (
            if x8 < (x9 - x10) then (
              kg119 p v2 (v1 - (cn 4)) (F259 p v1 v2) x6 x7 x9 x10 (cn 0))
            else (
              kg119 p v2 (v1 - (cn 4)) (F259 p v1 v2) x6 x7 x9 x10 (cn 1))))))))))))
  else (
    (G259 p (v1 - (cn 4)) (cn 0)) ∧ (
    let x1 : Int32 := (F259 p (v1 - (cn 4)) (cn 0))
    (G259 p ((v1 - (cn 4)) + (cn 1)) v2) ∧ (
    let x2 : Int32 := (F259 p ((v1 - (cn 4)) + (cn 1)) v2)
    if (F259 p v1 v2) < 0 then (
      kg53 p)
    else (
      if x1 < 0 then (
        kg53 p)
      else (
        if x2 < 0 then (
          kg53 p)
        else (
          (inb (F259 p v1 v2) 44) ∧ (
          let x3 : Int32 := (p.1 13 25 ((F259 p v1 v2)).toNatClampNeg)
          (inb x1 44) ∧ (
          let x4 : Int32 := (p.1 13 25 (x1).toNatClampNeg)
          (inb x2 44) ∧ (
          let x5 : Int32 := (p.1 13 25 (x2).toNatClampNeg)
          if v2 = 0 then (
            if (x4 - x5) < x3 then (
              kg119 p v2 (v1 - (cn 4)) (F259 p v1 v2) x1 x2 x4 x5 (cn 0))
            else (
              kg119 p v2 (v1 - (cn 4)) (F259 p v1 v2) x1 x2 x4 x5 (cn 1)))
          else (
            if x3 < (x4 - x5) then (
              kg119 p v2 (v1 - (cn 4)) (F259 p v1 v2) x1 x2 x4 x5 (cn 0))
            else (
              kg119 p v2 (v1 - (cn 4)) (F259 p v1 v2) x1 x2 x4 x5 (cn 1)))))))))))))
noncomputable def g12_joins (p : PM) (v1 : Int32) (v2 : Int32) : Prop := bg12_joins v12_firstOf g12_firstOf g12_joins_53 g12_joins_119 p v1 v2
noncomputable def bv12_chains_64 (p : PM) : Int32 × PM :=
  ((cn 0), p)
noncomputable def v12_chains_64 (p : PM) : Int32 × PM := bv12_chains_64 p
noncomputable def bg12_chains_64 (p : PM) : Prop :=
  True
noncomputable def g12_chains_64 (p : PM) : Prop := bg12_chains_64 p
noncomputable def bv12_chains_248 (p : PM) (v1 : Int32) (v2 : Int32) (v3 : Int32) (v4 : Int32) (v5 : Int32) (v6 : Int32) (v7 : Int32) (v8 : Int32) : Int32 × PM :=
  ((cn 0), p)
noncomputable def v12_chains_248 (p : PM) (v1 : Int32) (v2 : Int32) (v3 : Int32) (v4 : Int32) (v5 : Int32) (v6 : Int32) (v7 : Int32) (v8 : Int32) : Int32 × PM := bv12_chains_248 p v1 v2 v3 v4 v5 v6 v7 v8
noncomputable def bg12_chains_248 (p : PM) (v1 : Int32) (v2 : Int32) (v3 : Int32) (v4 : Int32) (v5 : Int32) (v6 : Int32) (v7 : Int32) (v8 : Int32) : Prop :=
  True
noncomputable def g12_chains_248 (p : PM) (v1 : Int32) (v2 : Int32) (v3 : Int32) (v4 : Int32) (v5 : Int32) (v6 : Int32) (v7 : Int32) (v8 : Int32) : Prop := bg12_chains_248 p v1 v2 v3 v4 v5 v6 v7 v8
noncomputable def bv12_chains_364 (F233 : PM → Int32 → Int32 → Int32 → Int32 → Int32 → PM) (F237 : PM → Int32 → PM) (F261 : PM → Int32 → Int32 → PM) (p : PM) (v1 : Int32) (v2 : Int32) (v3 : Int32) (v4 : Int32) (v5 : Int32) (v7 : Int32) (v8 : Int32) (v10 : Int32) (s0 : Int32) : Int32 × PM :=
  if v1 = 0 then (
    let p1 : PM := F233 p (cn 1) s0 (p.1 13 15 (v3).toNatClampNeg) v8 v10
    if v1 = 0 then (
      if v1 = 0 then (
        let p2 : PM := F233 p1 (cn 2) (p1.1 13 15 (v3).toNatClampNeg) (p1.1 13 15 (v5).toNatClampNeg) v7 v10
        let p3 : PM := F261 p2 v2 v10
        let p4 : PM := F261 p3 v3 v10
        let p5 : PM := F261 p4 v4 v10
        let p6 : PM := F261 p5 v5 v10
        let p7 : PM := F237 p6 v2
        let p8 : PM := F237 p7 v3
        let p9 : PM := F237 p8 v4
        let p10 : PM := F237 p9 v5
        ((cn 1), p10))
      else (
        let p11 : PM := F233 p1 (cn 2) (p1.1 13 15 (v3).toNatClampNeg) (p1.1 13 15 (v3).toNatClampNeg) v7 v10
        let p12 : PM := F261 p11 v2 v10
        let p13 : PM := F261 p12 v3 v10
        let p14 : PM := F261 p13 v4 v10
        let p15 : PM := F261 p14 v5 v10
        let p16 : PM := F237 p15 v2
        let p17 : PM := F237 p16 v3
        let p18 : PM := F237 p17 v4
        let p19 : PM := F237 p18 v5
        ((cn 1), p19)))
    else (
      if v1 = 0 then (
        let p20 : PM := F233 p1 (cn 2) (p1.1 13 15 (v5).toNatClampNeg) (p1.1 13 15 (v5).toNatClampNeg) v7 v10
        let p21 : PM := F261 p20 v2 v10
        let p22 : PM := F261 p21 v3 v10
        let p23 : PM := F261 p22 v4 v10
        let p24 : PM := F261 p23 v5 v10
        let p25 : PM := F237 p24 v2
        let p26 : PM := F237 p25 v3
        let p27 : PM := F237 p26 v4
        let p28 : PM := F237 p27 v5
        ((cn 1), p28))
      else (
        let p29 : PM := F233 p1 (cn 2) (p1.1 13 15 (v5).toNatClampNeg) (p1.1 13 15 (v3).toNatClampNeg) v7 v10
        let p30 : PM := F261 p29 v2 v10
        let p31 : PM := F261 p30 v3 v10
        let p32 : PM := F261 p31 v4 v10
        let p33 : PM := F261 p32 v5 v10
        let p34 : PM := F237 p33 v2
        let p35 : PM := F237 p34 v3
        let p36 : PM := F237 p35 v4
        let p37 : PM := F237 p36 v5
        ((cn 1), p37))))
  else (
    let p38 : PM := F233 p (cn 1) s0 (p.1 13 15 (v2).toNatClampNeg) v8 v10
    if v1 = 0 then (
      if v1 = 0 then (
        let p39 : PM := F233 p38 (cn 2) (p38.1 13 15 (v3).toNatClampNeg) (p38.1 13 15 (v5).toNatClampNeg) v7 v10
        let p40 : PM := F261 p39 v2 v10
        let p41 : PM := F261 p40 v3 v10
        let p42 : PM := F261 p41 v4 v10
        let p43 : PM := F261 p42 v5 v10
        let p44 : PM := F237 p43 v2
        let p45 : PM := F237 p44 v3
        let p46 : PM := F237 p45 v4
        let p47 : PM := F237 p46 v5
        ((cn 1), p47))
      else (
        let p48 : PM := F233 p38 (cn 2) (p38.1 13 15 (v3).toNatClampNeg) (p38.1 13 15 (v3).toNatClampNeg) v7 v10
        let p49 : PM := F261 p48 v2 v10
        let p50 : PM := F261 p49 v3 v10
        let p51 : PM := F261 p50 v4 v10
        let p52 : PM := F261 p51 v5 v10
        let p53 : PM := F237 p52 v2
        let p54 : PM := F237 p53 v3
        let p55 : PM := F237 p54 v4
        let p56 : PM := F237 p55 v5
        ((cn 1), p56)))
    else (
      if v1 = 0 then (
        let p57 : PM := F233 p38 (cn 2) (p38.1 13 15 (v5).toNatClampNeg) (p38.1 13 15 (v5).toNatClampNeg) v7 v10
        let p58 : PM := F261 p57 v2 v10
        let p59 : PM := F261 p58 v3 v10
        let p60 : PM := F261 p59 v4 v10
        let p61 : PM := F261 p60 v5 v10
        let p62 : PM := F237 p61 v2
        let p63 : PM := F237 p62 v3
        let p64 : PM := F237 p63 v4
        let p65 : PM := F237 p64 v5
        ((cn 1), p65))
      else (
        let p66 : PM := F233 p38 (cn 2) (p38.1 13 15 (v5).toNatClampNeg) (p38.1 13 15 (v3).toNatClampNeg) v7 v10
        let p67 : PM := F261 p66 v2 v10
        let p68 : PM := F261 p67 v3 v10
        let p69 : PM := F261 p68 v4 v10
        let p70 : PM := F261 p69 v5 v10
        let p71 : PM := F237 p70 v2
        let p72 : PM := F237 p71 v3
        let p73 : PM := F237 p72 v4
        let p74 : PM := F237 p73 v5
        ((cn 1), p74))))
noncomputable def v12_chains_364 (p : PM) (v1 : Int32) (v2 : Int32) (v3 : Int32) (v4 : Int32) (v5 : Int32) (v7 : Int32) (v8 : Int32) (v10 : Int32) (s0 : Int32) : Int32 × PM := bv12_chains_364 v12_deals v12_guards v12_falls1 p v1 v2 v3 v4 v5 v7 v8 v10 s0
noncomputable def bg12_chains_364 (F233 : PM → Int32 → Int32 → Int32 → Int32 → Int32 → PM) (G233 : PM → Int32 → Int32 → Int32 → Int32 → Int32 → Prop) (F237 : PM → Int32 → PM) (G237 : PM → Int32 → Prop) (F261 : PM → Int32 → Int32 → PM) (G261 : PM → Int32 → Int32 → Prop) (p : PM) (v1 : Int32) (v2 : Int32) (v3 : Int32) (v4 : Int32) (v5 : Int32) (v7 : Int32) (v8 : Int32) (v10 : Int32) (s0 : Int32) : Prop :=
  if v1 = 0 then (
    (inb v3 44) ∧ (
    (G233 p (cn 1) s0 (p.1 13 15 (v3).toNatClampNeg) v8 v10) ∧ (
    let p1 : PM := F233 p (cn 1) s0 (p.1 13 15 (v3).toNatClampNeg) v8 v10
    if v1 = 0 then (
      (inb v3 44) ∧ (
      if v1 = 0 then (
        (inb v5 44) ∧ (
        (G233 p1 (cn 2) (p1.1 13 15 (v3).toNatClampNeg) (p1.1 13 15 (v5).toNatClampNeg) v7 v10) ∧ (
        let p2 : PM := F233 p1 (cn 2) (p1.1 13 15 (v3).toNatClampNeg) (p1.1 13 15 (v5).toNatClampNeg) v7 v10
        (G261 p2 v2 v10) ∧ (
        let p3 : PM := F261 p2 v2 v10
        (G261 p3 v3 v10) ∧ (
        let p4 : PM := F261 p3 v3 v10
        (G261 p4 v4 v10) ∧ (
        let p5 : PM := F261 p4 v4 v10
        (G261 p5 v5 v10) ∧ (
        let p6 : PM := F261 p5 v5 v10
        (G237 p6 v2) ∧ (
        let p7 : PM := F237 p6 v2
        (G237 p7 v3) ∧ (
        let p8 : PM := F237 p7 v3
        (G237 p8 v4) ∧ (
        let p9 : PM := F237 p8 v4
        (G237 p9 v5) ∧ (
        let p10 : PM := F237 p9 v5
        True)))))))))))
      else (
        (inb v3 44) ∧ (
        (G233 p1 (cn 2) (p1.1 13 15 (v3).toNatClampNeg) (p1.1 13 15 (v3).toNatClampNeg) v7 v10) ∧ (
        let p11 : PM := F233 p1 (cn 2) (p1.1 13 15 (v3).toNatClampNeg) (p1.1 13 15 (v3).toNatClampNeg) v7 v10
        (G261 p11 v2 v10) ∧ (
        let p12 : PM := F261 p11 v2 v10
        (G261 p12 v3 v10) ∧ (
        let p13 : PM := F261 p12 v3 v10
        (G261 p13 v4 v10) ∧ (
        let p14 : PM := F261 p13 v4 v10
        (G261 p14 v5 v10) ∧ (
        let p15 : PM := F261 p14 v5 v10
        (G237 p15 v2) ∧ (
        let p16 : PM := F237 p15 v2
        (G237 p16 v3) ∧ (
        let p17 : PM := F237 p16 v3
        (G237 p17 v4) ∧ (
        let p18 : PM := F237 p17 v4
        (G237 p18 v5) ∧ (
        let p19 : PM := F237 p18 v5
        True)))))))))))))
    else (
      (inb v5 44) ∧ (
      if v1 = 0 then (
        (inb v5 44) ∧ (
        (G233 p1 (cn 2) (p1.1 13 15 (v5).toNatClampNeg) (p1.1 13 15 (v5).toNatClampNeg) v7 v10) ∧ (
        let p20 : PM := F233 p1 (cn 2) (p1.1 13 15 (v5).toNatClampNeg) (p1.1 13 15 (v5).toNatClampNeg) v7 v10
        (G261 p20 v2 v10) ∧ (
        let p21 : PM := F261 p20 v2 v10
        (G261 p21 v3 v10) ∧ (
        let p22 : PM := F261 p21 v3 v10
        (G261 p22 v4 v10) ∧ (
        let p23 : PM := F261 p22 v4 v10
        (G261 p23 v5 v10) ∧ (
        let p24 : PM := F261 p23 v5 v10
        (G237 p24 v2) ∧ (
        let p25 : PM := F237 p24 v2
        (G237 p25 v3) ∧ (
        let p26 : PM := F237 p25 v3
        (G237 p26 v4) ∧ (
        let p27 : PM := F237 p26 v4
        (G237 p27 v5) ∧ (
        let p28 : PM := F237 p27 v5
        True)))))))))))
      else (
        (inb v3 44) ∧ (
        (G233 p1 (cn 2) (p1.1 13 15 (v5).toNatClampNeg) (p1.1 13 15 (v3).toNatClampNeg) v7 v10) ∧ (
        let p29 : PM := F233 p1 (cn 2) (p1.1 13 15 (v5).toNatClampNeg) (p1.1 13 15 (v3).toNatClampNeg) v7 v10
        (G261 p29 v2 v10) ∧ (
        let p30 : PM := F261 p29 v2 v10
        (G261 p30 v3 v10) ∧ (
        let p31 : PM := F261 p30 v3 v10
        (G261 p31 v4 v10) ∧ (
        let p32 : PM := F261 p31 v4 v10
        (G261 p32 v5 v10) ∧ (
        let p33 : PM := F261 p32 v5 v10
        (G237 p33 v2) ∧ (
        let p34 : PM := F237 p33 v2
        (G237 p34 v3) ∧ (
        let p35 : PM := F237 p34 v3
        (G237 p35 v4) ∧ (
        let p36 : PM := F237 p35 v4
        (G237 p36 v5) ∧ (
        let p37 : PM := F237 p36 v5
        True))))))))))))))))
  else (
    (inb v2 44) ∧ (
    (G233 p (cn 1) s0 (p.1 13 15 (v2).toNatClampNeg) v8 v10) ∧ (
    let p38 : PM := F233 p (cn 1) s0 (p.1 13 15 (v2).toNatClampNeg) v8 v10
    if v1 = 0 then (
      (inb v3 44) ∧ (
      if v1 = 0 then (
        (inb v5 44) ∧ (
        (G233 p38 (cn 2) (p38.1 13 15 (v3).toNatClampNeg) (p38.1 13 15 (v5).toNatClampNeg) v7 v10) ∧ (
        let p39 : PM := F233 p38 (cn 2) (p38.1 13 15 (v3).toNatClampNeg) (p38.1 13 15 (v5).toNatClampNeg) v7 v10
        (G261 p39 v2 v10) ∧ (
        let p40 : PM := F261 p39 v2 v10
        (G261 p40 v3 v10) ∧ (
        let p41 : PM := F261 p40 v3 v10
        (G261 p41 v4 v10) ∧ (
        let p42 : PM := F261 p41 v4 v10
        (G261 p42 v5 v10) ∧ (
        let p43 : PM := F261 p42 v5 v10
        (G237 p43 v2) ∧ (
        let p44 : PM := F237 p43 v2
        (G237 p44 v3) ∧ (
        let p45 : PM := F237 p44 v3
        (G237 p45 v4) ∧ (
        let p46 : PM := F237 p45 v4
        (G237 p46 v5) ∧ (
        let p47 : PM := F237 p46 v5
        True)))))))))))
      else (
        (inb v3 44) ∧ (
        (G233 p38 (cn 2) (p38.1 13 15 (v3).toNatClampNeg) (p38.1 13 15 (v3).toNatClampNeg) v7 v10) ∧ (
        let p48 : PM := F233 p38 (cn 2) (p38.1 13 15 (v3).toNatClampNeg) (p38.1 13 15 (v3).toNatClampNeg) v7 v10
        (G261 p48 v2 v10) ∧ (
        let p49 : PM := F261 p48 v2 v10
        (G261 p49 v3 v10) ∧ (
        let p50 : PM := F261 p49 v3 v10
        (G261 p50 v4 v10) ∧ (
        let p51 : PM := F261 p50 v4 v10
        (G261 p51 v5 v10) ∧ (
        let p52 : PM := F261 p51 v5 v10
        (G237 p52 v2) ∧ (
        let p53 : PM := F237 p52 v2
        (G237 p53 v3) ∧ (
        let p54 : PM := F237 p53 v3
        (G237 p54 v4) ∧ (
        let p55 : PM := F237 p54 v4
        (G237 p55 v5) ∧ (
        let p56 : PM := F237 p55 v5
        True)))))))))))))
    else (
      (inb v5 44) ∧ (
      if v1 = 0 then (
        (inb v5 44) ∧ (
        (G233 p38 (cn 2) (p38.1 13 15 (v5).toNatClampNeg) (p38.1 13 15 (v5).toNatClampNeg) v7 v10) ∧ (
        let p57 : PM := F233 p38 (cn 2) (p38.1 13 15 (v5).toNatClampNeg) (p38.1 13 15 (v5).toNatClampNeg) v7 v10
        (G261 p57 v2 v10) ∧ (
        let p58 : PM := F261 p57 v2 v10
        (G261 p58 v3 v10) ∧ (
        let p59 : PM := F261 p58 v3 v10
        (G261 p59 v4 v10) ∧ (
        let p60 : PM := F261 p59 v4 v10
        (G261 p60 v5 v10) ∧ (
        let p61 : PM := F261 p60 v5 v10
        (G237 p61 v2) ∧ (
        let p62 : PM := F237 p61 v2
        (G237 p62 v3) ∧ (
        let p63 : PM := F237 p62 v3
        (G237 p63 v4) ∧ (
        let p64 : PM := F237 p63 v4
        (G237 p64 v5) ∧ (
        let p65 : PM := F237 p64 v5
        True)))))))))))
      else (
        (inb v3 44) ∧ (
        (G233 p38 (cn 2) (p38.1 13 15 (v5).toNatClampNeg) (p38.1 13 15 (v3).toNatClampNeg) v7 v10) ∧ (
        let p66 : PM := F233 p38 (cn 2) (p38.1 13 15 (v5).toNatClampNeg) (p38.1 13 15 (v3).toNatClampNeg) v7 v10
        (G261 p66 v2 v10) ∧ (
        let p67 : PM := F261 p66 v2 v10
        (G261 p67 v3 v10) ∧ (
        let p68 : PM := F261 p67 v3 v10
        (G261 p68 v4 v10) ∧ (
        let p69 : PM := F261 p68 v4 v10
        (G261 p69 v5 v10) ∧ (
        let p70 : PM := F261 p69 v5 v10
        (G237 p70 v2) ∧ (
        let p71 : PM := F237 p70 v2
        (G237 p71 v3) ∧ (
        let p72 : PM := F237 p71 v3
        (G237 p72 v4) ∧ (
        let p73 : PM := F237 p72 v4
        (G237 p73 v5) ∧ (
        let p74 : PM := F237 p73 v5
        True))))))))))))))))
noncomputable def g12_chains_364 (p : PM) (v1 : Int32) (v2 : Int32) (v3 : Int32) (v4 : Int32) (v5 : Int32) (v7 : Int32) (v8 : Int32) (v10 : Int32) (s0 : Int32) : Prop := bg12_chains_364 v12_deals g12_deals v12_guards g12_guards v12_falls1 g12_falls1 p v1 v2 v3 v4 v5 v7 v8 v10 s0
noncomputable def bv12_chains_316 (F233 : PM → Int32 → Int32 → Int32 → Int32 → Int32 → PM) (kv364 : PM → Int32 → Int32 → Int32 → Int32 → Int32 → Int32 → Int32 → Int32 → Int32 → Int32 × PM) (p : PM) (v1 : Int32) (v2 : Int32) (v3 : Int32) (v4 : Int32) (v5 : Int32) (v6 : Int32) (v7 : Int32) (v8 : Int32) (v10 : Int32) (s0 : Int32) : Int32 × PM :=
  if v1 = 0 then (
    let p1 : PM := F233 p (cn 0) s0 (p.1 13 15 (v2).toNatClampNeg) v6 v10
    if v1 = 0 then (
      kv364 p1 v1 v2 v3 v4 v5 v7 v8 v10 (p1.1 13 15 (v2).toNatClampNeg))
    else (
      kv364 p1 v1 v2 v3 v4 v5 v7 v8 v10 (p1.1 13 15 (v3).toNatClampNeg)))
  else (
    let p2 : PM := F233 p (cn 0) s0 (p.1 13 15 (v4).toNatClampNeg) v6 v10
    if v1 = 0 then (
      kv364 p2 v1 v2 v3 v4 v5 v7 v8 v10 (p2.1 13 15 (v2).toNatClampNeg))
    else (
      kv364 p2 v1 v2 v3 v4 v5 v7 v8 v10 (p2.1 13 15 (v3).toNatClampNeg)))
noncomputable def v12_chains_316 (p : PM) (v1 : Int32) (v2 : Int32) (v3 : Int32) (v4 : Int32) (v5 : Int32) (v6 : Int32) (v7 : Int32) (v8 : Int32) (v10 : Int32) (s0 : Int32) : Int32 × PM := bv12_chains_316 v12_deals v12_chains_364 p v1 v2 v3 v4 v5 v6 v7 v8 v10 s0
noncomputable def bg12_chains_316 (F233 : PM → Int32 → Int32 → Int32 → Int32 → Int32 → PM) (G233 : PM → Int32 → Int32 → Int32 → Int32 → Int32 → Prop) (kg364 : PM → Int32 → Int32 → Int32 → Int32 → Int32 → Int32 → Int32 → Int32 → Int32 → Prop) (p : PM) (v1 : Int32) (v2 : Int32) (v3 : Int32) (v4 : Int32) (v5 : Int32) (v6 : Int32) (v7 : Int32) (v8 : Int32) (v10 : Int32) (s0 : Int32) : Prop :=
  if v1 = 0 then (
    (inb v2 44) ∧ (
    (G233 p (cn 0) s0 (p.1 13 15 (v2).toNatClampNeg) v6 v10) ∧ (
    let p1 : PM := F233 p (cn 0) s0 (p.1 13 15 (v2).toNatClampNeg) v6 v10
    if v1 = 0 then (
      (inb v2 44) ∧ (
      kg364 p1 v1 v2 v3 v4 v5 v7 v8 v10 (p1.1 13 15 (v2).toNatClampNeg)))
    else (
      (inb v3 44) ∧ (
      kg364 p1 v1 v2 v3 v4 v5 v7 v8 v10 (p1.1 13 15 (v3).toNatClampNeg))))))
  else (
    (inb v4 44) ∧ (
    (G233 p (cn 0) s0 (p.1 13 15 (v4).toNatClampNeg) v6 v10) ∧ (
    let p2 : PM := F233 p (cn 0) s0 (p.1 13 15 (v4).toNatClampNeg) v6 v10
    if v1 = 0 then (
      (inb v2 44) ∧ (
      kg364 p2 v1 v2 v3 v4 v5 v7 v8 v10 (p2.1 13 15 (v2).toNatClampNeg)))
    else (
      (inb v3 44) ∧ (
      kg364 p2 v1 v2 v3 v4 v5 v7 v8 v10 (p2.1 13 15 (v3).toNatClampNeg))))))
