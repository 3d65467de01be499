/-! the reference as functions, a ghost beside the class (text of wip/whole/lift.py, chosen by wip/p50/ghost.py) -/
noncomputable def g12_sharesOut_116 (n : Nat) : PM → Int32 → Int32 → Int32 → Int32 → Int32 → Int32 → Int32 → Prop := Nat.rec (motive := fun _ => PM → Int32 → Int32 → Int32 → Int32 → Int32 → Int32 → Int32 → Prop) (fun _ _ _ _ _ _ _ _ => False) (fun _ ih => bg12_sharesOut_116 v12_showsNow g12_showsNow v12_isAt g12_isAt ih (g12_sharesOut_207 FU)) n
theorem eg12_sharesOut_116 (n : Nat) (p : PM) (v1 : Int32) (v2 : Int32) (v3 : Int32) (v6 : Int32) (v7 : Int32) (v8 : Int32) (v9 : Int32) : g12_sharesOut_116 (n + 1) p v1 v2 v3 v6 v7 v8 v9 = bg12_sharesOut_116 v12_showsNow g12_showsNow v12_isAt g12_isAt (g12_sharesOut_116 n) (g12_sharesOut_207 FU) p v1 v2 v3 v6 v7 v8 v9 := rfl
noncomputable def bv12_sharesOut_61 (F226 : PM → Int32 → Int32) (F241 : PM → Int32 → Int32 → Int32 → Int32 → Int32) (kv61 : PM → Int32 → Int32 → Int32 → Int32 → Int32 → Int32 → PM) (kv116 : PM → Int32 → Int32 → Int32 → Int32 → Int32 → Int32 → Int32 → PM) (p : PM) (v1 : Int32) (v2 : Int32) (v3 : Int32) (v6 : Int32) (v7 : Int32) (v8 : Int32) : PM :=
  if v8 < (cn 44) then (
    if (F241 p v8 v1 v2 v3) = 0 then (
      kv61 p v1 v2 v3 v6 (v7 + (cn 0)) (v8 + (cn 1)))
    else (
      let x1 : Int32 := (v7 + ((F226 p v8) - (p.1 13 29 (v8).toNatClampNeg)))
      kv61 p v1 v2 v3 v6 x1 (v8 + (cn 1))))
  else (
    kv116 p v1 v2 v3 v6 v7 v6 (cn 0))
noncomputable def v12_sharesOut_61 (n : Nat) : PM → Int32 → Int32 → Int32 → Int32 → Int32 → Int32 → PM := Nat.rec (motive := fun _ => PM → Int32 → Int32 → Int32 → Int32 → Int32 → Int32 → PM) (fun p _ _ _ _ _ _ => p) (fun _ ih => bv12_sharesOut_61 v12_showsNow v12_isAt ih (v12_sharesOut_116 FU)) n
theorem ev12_sharesOut_61 (n : Nat) (p : PM) (v1 : Int32) (v2 : Int32) (v3 : Int32) (v6 : Int32) (v7 : Int32) (v8 : Int32) : v12_sharesOut_61 (n + 1) p v1 v2 v3 v6 v7 v8 = bv12_sharesOut_61 v12_showsNow v12_isAt (v12_sharesOut_61 n) (v12_sharesOut_116 FU) p v1 v2 v3 v6 v7 v8 := rfl
noncomputable def bg12_sharesOut_61 (F226 : PM → Int32 → Int32) (G226 : PM → Int32 → Prop) (F241 : PM → Int32 → Int32 → Int32 → Int32 → Int32) (G241 : PM → Int32 → Int32 → Int32 → Int32 → Prop) (kg61 : PM → Int32 → Int32 → Int32 → Int32 → Int32 → Int32 → Prop) (kg116 : PM → Int32 → Int32 → Int32 → Int32 → Int32 → Int32 → Int32 → Prop) (p : PM) (v1 : Int32) (v2 : Int32) (v3 : Int32) (v6 : Int32) (v7 : Int32) (v8 : Int32) : Prop :=
  if v8 < (cn 44) then (
    (G241 p v8 v1 v2 v3) ∧ (
    if (F241 p v8 v1 v2 v3) = 0 then (
      kg61 p v1 v2 v3 v6 (v7 + (cn 0)) (v8 + (cn 1)))
    else (
      (G226 p v8) ∧ (
      (inb v8 44) ∧ (
      let x1 : Int32 := (v7 + ((F226 p v8) - (p.1 13 29 (v8).toNatClampNeg)))
      kg61 p v1 v2 v3 v6 x1 (v8 + (cn 1)))))))
  else (
    kg116 p v1 v2 v3 v6 v7 v6 (cn 0))
noncomputable def g12_sharesOut_61 (n : Nat) : PM → Int32 → Int32 → Int32 → Int32 → Int32 → Int32 → Prop := Nat.rec (motive := fun _ => PM → Int32 → Int32 → Int32 → Int32 → Int32 → Int32 → Prop) (fun _ _ _ _ _ _ _ => False) (fun _ ih => bg12_sharesOut_61 v12_showsNow g12_showsNow v12_isAt g12_isAt ih (g12_sharesOut_116 FU)) n
theorem eg12_sharesOut_61 (n : Nat) (p : PM) (v1 : Int32) (v2 : Int32) (v3 : Int32) (v6 : Int32) (v7 : Int32) (v8 : Int32) : g12_sharesOut_61 (n + 1) p v1 v2 v3 v6 v7 v8 = bg12_sharesOut_61 v12_showsNow g12_showsNow v12_isAt g12_isAt (g12_sharesOut_61 n) (g12_sharesOut_116 FU) p v1 v2 v3 v6 v7 v8 := rfl
noncomputable def bv12_sharesOut (F226 : PM → Int32 → Int32) (F242 : PM → Int32 → Int32 → Int32 → Int32 → Int32) (F244 : PM → Int32 → Int32 → Int32) (kv61 : PM → Int32 → Int32 → Int32 → Int32 → Int32 → Int32 → PM) (p : PM) (v1 : Int32) (v2 : Int32) (v3 : Int32) (v4 : Int32) : PM :=
  let x1 : Int32 := (F242 p v1 v2 v3 (cn (-1)))
  let p2 : PM := pI p 13 29 (x1).toNatClampNeg (F244 p (F244 p (p.1 13 7 (v1).toNatClampNeg) (F226 p x1)) v4)
  let x3 : Int32 := (v4 - (p2.1 13 29 (x1).toNatClampNeg))
  kv61 p2 v1 v2 v3 x3 (cn 0) (cn 0)
noncomputable def v12_sharesOut (p : PM) (v1 : Int32) (v2 : Int32) (v3 : Int32) (v4 : Int32) : PM := bv12_sharesOut v12_showsNow v12_behindTurn v12_least (v12_sharesOut_61 FU) p v1 v2 v3 v4
noncomputable def bg12_sharesOut (F226 : PM → Int32 → Int32) (G226 : PM → Int32 → Prop) (F242 : PM → Int32 → Int32 → Int32 → Int32 → Int32) (G242 : PM → Int32 → Int32 → Int32 → Int32 → Prop) (F244 : PM → Int32 → Int32 → Int32) (G244 : PM → Int32 → Int32 → Prop) (kg61 : PM → Int32 → Int32 → Int32 → Int32 → Int32 → Int32 → Prop) (p : PM) (v1 : Int32) (v2 : Int32) (v3 : Int32) (v4 : Int32) : Prop :=
  (G242 p v1 v2 v3 (cn (-1))) ∧ (
  let x1 : Int32 := (F242 p v1 v2 v3 (cn (-1)))
  (inb v1 6) ∧ (
  (G226 p x1) ∧ (
  (G244 p (p.1 13 7 (v1).toNatClampNeg) (F226 p x1)) ∧ (
  (G244 p (F244 p (p.1 13 7 (v1).toNatClampNeg) (F226 p x1)) v4) ∧ (
  (inb x1 44) ∧ (
  let p2 : PM := pI p 13 29 (x1).toNatClampNeg (F244 p (F244 p (p.1 13 7 (v1).toNatClampNeg) (F226 p x1)) v4)
  (inb x1 44) ∧ (
  let x3 : Int32 := (v4 - (p2.1 13 29 (x1).toNatClampNeg))
  kg61 p2 v1 v2 v3 x3 (cn 0) (cn 0))))))))
noncomputable def g12_sharesOut (p : PM) (v1 : Int32) (v2 : Int32) (v3 : Int32) (v4 : Int32) : Prop := bg12_sharesOut v12_showsNow g12_showsNow v12_behindTurn g12_behindTurn v12_least g12_least (g12_sharesOut_61 FU) p v1 v2 v3 v4
noncomputable def bv12_tradesWith_49 (F225 : PM → Int32 → PM) (F227 : PM → Int32 → PM) (F233 : PM → Int32 → Int32 → Int32 → Int32 → Int32 → PM) (F236 : PM → Int32 → Int32 → Int32 → PM) (F237 : PM → Int32 → PM) (p : PM) (v1 : Int32) (v2 : Int32) (v3 : Int32) (v4 : Int32) (s0 : Int32) : PM :=
  if (p.1 15 4 (v1).toNatClampNeg) = 0 then (
    let x1 : Int32 := (p.1 13 15 (v2).toNatClampNeg)
    let p2 : PM := F233 p (p.1 13 16 (v1).toNatClampNeg) x1 s0 v3 v4
    let p3 : PM := F236 p2 v1 v4 (cn 0)
    let p4 : PM := F236 p3 v2 v4 (cn 1)
    if (p4.1 15 3 (v2).toNatClampNeg) = 0 then (
      let p5 : PM := F237 p4 v1
      let p6 : PM := F237 p5 v2
      p6)
    else (
      if (p4.1 13 19 (v2).toNatClampNeg) = (cn 1) then (
        if (p4.1 13 22 (v2).toNatClampNeg) = 0 then (
          let p11 : PM := F227 p4 v2
          let p12 : PM := F225 p11 v2
          let p13 : PM := F237 p12 v1
          let p14 : PM := F237 p13 v2
          p14)
        else (
          let p9 : PM := F237 p4 v1
          let p10 : PM := F237 p9 v2
          p10))
      else (
        let p7 : PM := F237 p4 v1
        let p8 : PM := F237 p7 v2
        p8)))
  else (
    let x15 : Int32 := (p.1 13 15 (v1).toNatClampNeg)
    let p16 : PM := F233 p (p.1 13 16 (v1).toNatClampNeg) x15 s0 v3 v4
    let p17 : PM := F236 p16 v1 v4 (cn 0)
    let p18 : PM := F236 p17 v2 v4 (cn 1)
    if (p18.1 15 3 (v2).toNatClampNeg) = 0 then (
      let p19 : PM := F237 p18 v1
      let p20 : PM := F237 p19 v2
      p20)
    else (
      if (p18.1 13 19 (v2).toNatClampNeg) = (cn 1) then (
        if (p18.1 13 22 (v2).toNatClampNeg) = 0 then (
          let p25 : PM := F227 p18 v2
          let p26 : PM := F225 p25 v2
          let p27 : PM := F237 p26 v1
          let p28 : PM := F237 p27 v2
          p28)
        else (
          let p23 : PM := F237 p18 v1
          let p24 : PM := F237 p23 v2
          p24))
      else (
        let p21 : PM := F237 p18 v1
        let p22 : PM := F237 p21 v2
        p22)))
noncomputable def v12_tradesWith_49 (p : PM) (v1 : Int32) (v2 : Int32) (v3 : Int32) (v4 : Int32) (s0 : Int32) : PM := bv12_tradesWith_49 v12_newTurn v12_showsAnew v12_deals v12_falls v12_guards p v1 v2 v3 v4 s0
noncomputable def bg12_tradesWith_49 (F225 : PM → Int32 → PM) (G225 : PM → Int32 → Prop) (F227 : PM → Int32 → PM) (G227 : PM → Int32 → Prop) (F233 : PM → Int32 → Int32 → Int32 → Int32 → Int32 → PM) (G233 : PM → Int32 → Int32 → Int32 → Int32 → Int32 → Prop) (F236 : PM → Int32 → Int32 → Int32 → PM) (G236 : PM → Int32 → Int32 → Int32 → Prop) (F237 : PM → Int32 → PM) (G237 : PM → Int32 → Prop) (p : PM) (v1 : Int32) (v2 : Int32) (v3 : Int32) (v4 : Int32) (s0 : Int32) : Prop :=
  (inb v1 44) ∧ (
  if (p.1 15 4 (v1).toNatClampNeg) = 0 then (
    (inb v2 44) ∧ (
    let x1 : Int32 := (p.1 13 15 (v2).toNatClampNeg)
    (inb v1 44) ∧ (
    (G233 p (p.1 13 16 (v1).toNatClampNeg) x1 s0 v3 v4) ∧ (
    let p2 : PM := F233 p (p.1 13 16 (v1).toNatClampNeg) x1 s0 v3 v4
    (G236 p2 v1 v4 (cn 0)) ∧ (
    let p3 : PM := F236 p2 v1 v4 (cn 0)
    (G236 p3 v2 v4 (cn 1)) ∧ (
    let p4 : PM := F236 p3 v2 v4 (cn 1)
    (inb v2 44) ∧ (
    if (p4.1 15 3 (v2).toNatClampNeg) = 0 then (
      (G237 p4 v1) ∧ (
      let p5 : PM := F237 p4 v1
      (G237 p5 v2) ∧ (
      let p6 : PM := F237 p5 v2
      True)))
    else (
      (inb v2 44) ∧ (
      if (p4.1 13 19 (v2).toNatClampNeg) = (cn 1) then (
        (inb v2 44) ∧ (
        if (p4.1 13 22 (v2).toNatClampNeg) = 0 then (
          (G227 p4 v2) ∧ (
          let p11 : PM := F227 p4 v2
          (G225 p11 v2) ∧ (
          let p12 : PM := F225 p11 v2
          (G237 p12 v1) ∧ (
          let p13 : PM := F237 p12 v1
          (G237 p13 v2) ∧ (
          let p14 : PM := F237 p13 v2
          True)))))
        else (
          (G237 p4 v1) ∧ (
          let p9 : PM := F237 p4 v1
          (G237 p9 v2) ∧ (
          let p10 : PM := F237 p9 v2
          True)))))
      else (
        (G237 p4 v1) ∧ (
        let p7 : PM := F237 p4 v1
        (G237 p7 v2) ∧ (
        let p8 : PM := F237 p7 v2
        True))))))))))))
  else (
    (inb v1 44) ∧ (
    let x15 : Int32 := (p.1 13 15 (v1).toNatClampNeg)
    (inb v1 44) ∧ (
    (G233 p (p.1 13 16 (v1).toNatClampNeg) x15 s0 v3 v4) ∧ (
    let p16 : PM := F233 p (p.1 13 16 (v1).toNatClampNeg) x15 s0 v3 v4
    (G236 p16 v1 v4 (cn 0)) ∧ (
    let p17 : PM := F236 p16 v1 v4 (cn 0)
    (G236 p17 v2 v4 (cn 1)) ∧ (
    let p18 : PM := F236 p17 v2 v4 (cn 1)
    (inb v2 44) ∧ (
    if (p18.1 15 3 (v2).toNatClampNeg) = 0 then (
      (G237 p18 v1) ∧ (
      let p19 : PM := F237 p18 v1
      (G237 p19 v2) ∧ (
      let p20 : PM := F237 p19 v2
      True)))
    else (
      (inb v2 44) ∧ (
      if (p18.1 13 19 (v2).toNatClampNeg) = (cn 1) then (
        (inb v2 44) ∧ (
        if (p18.1 13 22 (v2).toNatClampNeg) = 0 then (
          (G227 p18 v2) ∧ (
          let p25 : PM := F227 p18 v2
          (G225 p25 v2) ∧ (
          let p26 : PM := F225 p25 v2
          (G237 p26 v1) ∧ (
          let p27 : PM := F237 p26 v1
          (G237 p27 v2) ∧ (
          let p28 : PM := F237 p27 v2
          True)))))
        else (
          (G237 p18 v1) ∧ (
          let p23 : PM := F237 p18 v1
          (G237 p23 v2) ∧ (
          let p24 : PM := F237 p23 v2
          True)))))
      else (
        (G237 p18 v1) ∧ (
        let p21 : PM := F237 p18 v1
        (G237 p21 v2) ∧ (
        let p22 : PM := F237 p21 v2
        True)))))))))))))
noncomputable def g12_tradesWith_49 (p : PM) (v1 : Int32) (v2 : Int32) (v3 : Int32) (v4 : Int32) (s0 : Int32) : Prop := bg12_tradesWith_49 v12_newTurn g12_newTurn v12_showsAnew g12_showsAnew v12_deals g12_deals v12_falls g12_falls v12_guards g12_guards p v1 v2 v3 v4 s0
noncomputable def bv12_tradesWith (F244 : PM → Int32 → Int32 → Int32) (kv49 : PM → Int32 → Int32 → Int32 → Int32 → Int32 → PM) (p : PM) (v1 : Int32) (v2 : Int32) (v3 : Int32) : PM :=
  let x1 : Int32 := (F244 p (p.1 13 29 (v2).toNatClampNeg) (p.1 13 17 (v1).toNatClampNeg))
  let p2 : PM := pI p 13 29 (v2).toNatClampNeg (cn 0)
  if (p2.1 15 4 (v1).toNatClampNeg) = 0 then (
    kv49 p2 v1 v2 v3 x1 (p2.1 13 15 (v1).toNatClampNeg))
  else (
    kv49 p2 v1 v2 v3 x1 (p2.1 13 15 (v2).toNatClampNeg))
noncomputable def v12_tradesWith (p : PM) (v1 : Int32) (v2 : Int32) (v3 : Int32) : PM := bv12_tradesWith v12_least v12_tradesWith_49 p v1 v2 v3
noncomputable def bg12_tradesWith (F244 : PM → Int32 → Int32 → Int32) (G244 : PM → Int32 → Int32 → Prop) (kg49 : PM → Int32 → Int32 → Int32 → Int32 → Int32 → Prop) (p : PM) (v1 : Int32) (v2 : Int32) (v3 : Int32) : Prop :=
  (inb v2 44) ∧ (
  (inb v1 44) ∧ (
  (G244 p (p.1 13 29 (v2).toNatClampNeg) (p.1 13 17 (v1).toNatClampNeg)) ∧ (
  let x1 : Int32 := (F244 p (p.1 13 29 (v2).toNatClampNeg) (p.1 13 17 (v1).toNatClampNeg))
  (inb v2 44) ∧ (
  let p2 : PM := pI p 13 29 (v2).toNatClampNeg (cn 0)
  (inb v1 44) ∧ (
  if (p2.1 15 4 (v1).toNatClampNeg) = 0 then (
    (inb v1 44) ∧ (
    kg49 p2 v1 v2 v3 x1 (p2.1 13 15 (v1).toNatClampNeg)))
  else (
    (inb v2 44) ∧ (
    kg49 p2 v1 v2 v3 x1 (p2.1 13 15 (v2).toNatClampNeg))))))))
noncomputable def g12_tradesWith (p : PM) (v1 : Int32) (v2 : Int32) (v3 : Int32) : Prop := bg12_tradesWith v12_least g12_least g12_tradesWith_49 p v1 v2 v3
noncomputable def bv12_served_6 (p : PM) (kv6 : Int32 → Int32 → Int32 → Int32) (v1 : Int32) (v4 : Int32) (v5 : Int32) : Int32 :=
  if v5 < (cn 44) then (
    if 0 < (p.1 13 29 (v5).toNatClampNeg) then (
      if (p.1 13 6 (v1).toNatClampNeg) = (cn 2) then (
        if v4 < 0 then (
          kv6 v1 v5 (v5 + (cn 1)))
        else (
          if (p.1 13 41 (v4).toNatClampNeg) < (p.1 13 41 (v5).toNatClampNeg) then (
            kv6 v1 v5 (v5 + (cn 1)))
          else (
            if (p.1 13 41 (v5).toNatClampNeg) = (p.1 13 41 (v4).toNatClampNeg) then (
              if (p.1 13 42 (v5).toNatClampNeg) < (p.1 13 42 (v4).toNatClampNeg) then (
                kv6 v1 v5 (v5 + (cn 1)))
              else (
                kv6 v1 v4 (v5 + (cn 1))))
            else (
              kv6 v1 v4 (v5 + (cn 1))))))
      else (
        if v4 < 0 then (
          kv6 v1 v5 (v5 + (cn 1)))
        else (
          if (p.1 13 42 (v5).toNatClampNeg) < (p.1 13 42 (v4).toNatClampNeg) then (
            kv6 v1 v5 (v5 + (cn 1)))
          else (
            kv6 v1 v4 (v5 + (cn 1))))))
    else (
      if (p.1 13 6 (v1).toNatClampNeg) = (cn 2) then (
        kv6 v1 v4 (v5 + (cn 1)))
      else (
        kv6 v1 v4 (v5 + (cn 1)))))
  else (
    v4)
noncomputable def v12_served_6 (p : PM) (n : Nat) : Int32 → Int32 → Int32 → Int32 := Nat.rec (motive := fun _ => Int32 → Int32 → Int32 → Int32) (fun _ _ _ => 0) (fun _ ih => bv12_served_6 p ih) n
theorem ev12_served_6 (p : PM) (n : Nat) (v1 : Int32) (v4 : Int32) (v5 : Int32) : v12_served_6 p (n + 1) v1 v4 v5 = bv12_served_6 p (v12_served_6 p n) v1 v4 v5 := rfl
noncomputable def bg12_served_6 (p : PM) (kg6 : Int32 → Int32 → Int32 → Prop) (v1 : Int32) (v4 : Int32) (v5 : Int32) : Prop :=
  if v5 < (cn 44) then (
    (inb v5 44) ∧ (
    if 0 < (p.1 13 29 (v5).toNatClampNeg) then (
      (inb v1 6) ∧ (
      if (p.1 13 6 (v1).toNatClampNeg) = (cn 2) then (
        if v4 < 0 then (
          kg6 v1 v5 (v5 + (cn 1)))
        else (
          (inb v5 44) ∧ (
          (inb v4 44) ∧ (
          if (p.1 13 41 (v4).toNatClampNeg) < (p.1 13 41 (v5).toNatClampNeg) then (
            kg6 v1 v5 (v5 + (cn 1)))
          else (
            (inb v5 44) ∧ (
            (inb v4 44) ∧ (
            if (p.1 13 41 (v5).toNatClampNeg) = (p.1 13 41 (v4).toNatClampNeg) then (
              (inb v5 44) ∧ (
              (inb v4 44) ∧ (
              if (p.1 13 42 (v5).toNatClampNeg) < (p.1 13 42 (v4).toNatClampNeg) then (
                kg6 v1 v5 (v5 + (cn 1)))
              else (
                kg6 v1 v4 (v5 + (cn 1))))))
            else (
              kg6 v1 v4 (v5 + (cn 1))))))))))
      else (
        if v4 < 0 then (
          kg6 v1 v5 (v5 + (cn 1)))
        else (
          (inb v5 44) ∧ (
          (inb v4 44) ∧ (
          if (p.1 13 42 (v5).toNatClampNeg) < (p.1 13 42 (v4).toNatClampNeg) then (
            kg6 v1 v5 (v5 + (cn 1)))
          else (
            kg6 v1 v4 (v5 + (cn 1)))))))))
    else (
      (inb v1 6) ∧ (
      if (p.1 13 6 (v1).toNatClampNeg) = (cn 2) then (
        kg6 v1 v4 (v5 + (cn 1)))
      else (
        kg6 v1 v4 (v5 + (cn 1)))))))
  else (
    True)
noncomputable def g12_served_6 (p : PM) (n : Nat) : Int32 → Int32 → Int32 → Prop := Nat.rec (motive := fun _ => Int32 → Int32 → Int32 → Prop) (fun _ _ _ => False) (fun _ ih => bg12_served_6 p ih) n
theorem eg12_served_6 (p : PM) (n : Nat) (v1 : Int32) (v4 : Int32) (v5 : Int32) : g12_served_6 p (n + 1) v1 v4 v5 = bg12_served_6 p (g12_served_6 p n) v1 v4 v5 := rfl
noncomputable def bv12_served (p : PM) (kv6 : Int32 → Int32 → Int32 → Int32) (v1 : Int32) (v2 : Int32) (v3 : Int32) : Int32 :=
  kv6 v1 (cn (-1)) (cn 0)
noncomputable def v12_served (p : PM) (v1 : Int32) (v2 : Int32) (v3 : Int32) : Int32 := bv12_served p (v12_served_6 p FU) v1 v2 v3
noncomputable def bg12_served (p : PM) (kg6 : Int32 → Int32 → Int32 → Prop) (v1 : Int32) (v2 : Int32) (v3 : Int32) : Prop :=
  kg6 v1 (cn (-1)) (cn 0)
noncomputable def g12_served (p : PM) (v1 : Int32) (v2 : Int32) (v3 : Int32) : Prop := bg12_served p (g12_served_6 p FU) v1 v2 v3
noncomputable def bv12_servesAll_147 (F249 : PM → Int32 → Int32 → Int32 → PM) (F250 : PM → Int32 → Int32 → Int32 → Int32) (kv147 : PM → Int32 → Int32 → Int32 → Int32 → Int32 → PM) (p : PM) (v1 : Int32) (v2 : Int32) (v3 : Int32) (v4 : Int32) (v5 : Int32) : PM :=
  if v5 < 0 then (
    p)
  else (
    if (p.1 15 3 (v5).toNatClampNeg) = 0 then (
      let p1 : PM := pI p 13 29 (v5).toNatClampNeg (cn 0)
      kv147 p1 v1 v2 v3 v4 (F250 p1 v3 v4 v2))
    else (
      if (p.1 15 3 (v1).toNatClampNeg) = 0 then (
        let p2 : PM := pI p 13 29 (v5).toNatClampNeg (cn 0)
        kv147 p2 v1 v2 v3 v4 (F250 p2 v3 v4 v2))
      else (
        let p3 : PM := F249 p v1 v5 v2
        let p4 : PM := pI p3 13 29 (v5).toNatClampNeg (cn 0)
        kv147 p4 v1 v2 v3 v4 (F250 p4 v3 v4 v2))))
noncomputable def v12_servesAll_147 (n : Nat) : PM → Int32 → Int32 → Int32 → Int32 → Int32 → PM := Nat.rec (motive := fun _ => PM → Int32 → Int32 → Int32 → Int32 → Int32 → PM) (fun p _ _ _ _ _ => p) (fun _ ih => bv12_servesAll_147 v12_tradesWith v12_served ih) n
theorem ev12_servesAll_147 (n : Nat) (p : PM) (v1 : Int32) (v2 : Int32) (v3 : Int32) (v4 : Int32) (v5 : Int32) : v12_servesAll_147 (n + 1) p v1 v2 v3 v4 v5 = bv12_servesAll_147 v12_tradesWith v12_served (v12_servesAll_147 n) p v1 v2 v3 v4 v5 := rfl
noncomputable def bg12_servesAll_147 (F249 : PM → Int32 → Int32 → Int32 → PM) (G249 : PM → Int32 → Int32 → Int32 → Prop) (F250 : PM → Int32 → Int32 → Int32 → Int32) (G250 : PM → Int32 → Int32 → Int32 → Prop) (kg147 : PM → Int32 → Int32 → Int32 → Int32 → Int32 → Prop) (p : PM) (v1 : Int32) (v2 : Int32) (v3 : Int32) (v4 : Int32) (v5 : Int32) : Prop :=
  if v5 < 0 then (
    True)
  else (
    (inb v5 44) ∧ (
    if (p.1 15 3 (v5).toNatClampNeg) = 0 then (
      (inb v5 44) ∧ (
      let p1 : PM := pI p 13 29 (v5).toNatClampNeg (cn 0)
      (G250 p1 v3 v4 v2) ∧ (
      kg147 p1 v1 v2 v3 v4 (F250 p1 v3 v4 v2))))
    else (
      (inb v1 44) ∧ (
      if (p.1 15 3 (v1).toNatClampNeg) = 0 then (
        (inb v5 44) ∧ (
        let p2 : PM := pI p 13 29 (v5).toNatClampNeg (cn 0)
        (G250 p2 v3 v4 v2) ∧ (
        kg147 p2 v1 v2 v3 v4 (F250 p2 v3 v4 v2))))
      else (
        (G249 p v1 v5 v2) ∧ (
        let p3 : PM := F249 p v1 v5 v2
        (inb v5 44) ∧ (
        let p4 : PM := pI p3 13 29 (v5).toNatClampNeg (cn 0)
        (G250 p4 v3 v4 v2) ∧ (
        kg147 p4 v1 v2 v3 v4 (F250 p4 v3 v4 v2)))))))))
noncomputable def g12_servesAll_147 (n : Nat) : PM → Int32 → Int32 → Int32 → Int32 → Int32 → Prop := Nat.rec (motive := fun _ => PM → Int32 → Int32 → Int32 → Int32 → Int32 → Prop) (fun _ _ _ _ _ _ => False) (fun _ ih => bg12_servesAll_147 v12_tradesWith g12_tradesWith v12_served g12_served ih) n
theorem eg12_servesAll_147 (n : Nat) (p : PM) (v1 : Int32) (v2 : Int32) (v3 : Int32) (v4 : Int32) (v5 : Int32) : g12_servesAll_147 (n + 1) p v1 v2 v3 v4 v5 = bg12_servesAll_147 v12_tradesWith g12_tradesWith v12_served g12_served (g12_servesAll_147 n) p v1 v2 v3 v4 v5 := rfl
noncomputable def bv12_servesAll_30 (F226 : PM → Int32 → Int32) (F245 : PM → Int32 → Int32 → Int32 → Int32 → PM) (F246 : PM → Int32 → Int32 → Int32 → Int32 → PM) (F248 : PM → Int32 → Int32 → Int32 → Int32 → PM) (F250 : PM → Int32 → Int32 → Int32 → Int32) (kv30 : PM → Int32 → Int32 → Int32 → Int32 → Int32 → PM) (kv147 : PM → Int32 → Int32 → Int32 → Int32 → Int32 → PM) (p : PM) (v1 : Int32) (v2 : Int32) (v3 : Int32) (v4 : Int32) (v5 : Int32) : PM :=
  if v5 < (cn 44) then (
    let p4 : PM := pI p 13 41 (v5).toNatClampNeg (F226 p v5)
    let p5 : PM := pI p4 13 42 (v5).toNatClampNeg (p4.1 13 23 (v5).toNatClampNeg)
    kv30 p5 v1 v2 v3 v4 (v5 + (cn 1)))
  else (
    if (p.1 13 6 (v3).toNatClampNeg) = 0 then (
      let p3 : PM := F245 p v3 v4 v2 (p.1 13 17 (v1).toNatClampNeg)
      kv147 p3 v1 v2 v3 v4 (F250 p3 v3 v4 v2))
    else (
      if (p.1 13 6 (v3).toNatClampNeg) = (cn 2) then (
        let p2 : PM := F246 p v3 v4 v2 (p.1 13 17 (v1).toNatClampNeg)
        kv147 p2 v1 v2 v3 v4 (F250 p2 v3 v4 v2))
      else (
        let p1 : PM := F248 p v3 v4 v2 (p.1 13 17 (v1).toNatClampNeg)
        kv147 p1 v1 v2 v3 v4 (F250 p1 v3 v4 v2))))
noncomputable def v12_servesAll_30 (n : Nat) : PM → Int32 → Int32 → Int32 → Int32 → Int32 → PM := Nat.rec (motive := fun _ => PM → Int32 → Int32 → Int32 → Int32 → Int32 → PM) (fun p _ _ _ _ _ => p) (fun _ ih => bv12_servesAll_30 v12_showsNow v12_sharesByTurns v12_sharesBySize v12_sharesOut v12_served ih (v12_servesAll_147 FU)) n
theorem ev12_servesAll_30 (n : Nat) (p : PM) (v1 : Int32) (v2 : Int32) (v3 : Int32) (v4 : Int32) (v5 : Int32) : v12_servesAll_30 (n + 1) p v1 v2 v3 v4 v5 = bv12_servesAll_30 v12_showsNow v12_sharesByTurns v12_sharesBySize v12_sharesOut v12_served (v12_servesAll_30 n) (v12_servesAll_147 FU) p v1 v2 v3 v4 v5 := rfl
noncomputable def bg12_servesAll_30 (F226 : PM → Int32 → Int32) (G226 : PM → Int32 → Prop) (F245 : PM → Int32 → Int32 → Int32 → Int32 → PM) (G245 : PM → Int32 → Int32 → Int32 → Int32 → Prop) (F246 : PM → Int32 → Int32 → Int32 → Int32 → PM) (G246 : PM → Int32 → Int32 → Int32 → Int32 → Prop) (F248 : PM → Int32 → Int32 → Int32 → Int32 → PM) (G248 : PM → Int32 → Int32 → Int32 → Int32 → Prop) (F250 : PM → Int32 → Int32 → Int32 → Int32) (G250 : PM → Int32 → Int32 → Int32 → Prop) (kg30 : PM → Int32 → Int32 → Int32 → Int32 → Int32 → Prop) (kg147 : PM → Int32 → Int32 → Int32 → Int32 → Int32 → Prop) (p : PM) (v1 : Int32) (v2 : Int32) (v3 : Int32) (v4 : Int32) (v5 : Int32) : Prop :=
  if v5 < (cn 44) then (
    (G226 p v5) ∧ (
    (inb v5 44) ∧ (
    let p4 : PM := pI p 13 41 (v5).toNatClampNeg (F226 p v5)
    (inb v5 44) ∧ (
    (inb v5 44) ∧ (
    let p5 : PM := pI p4 13 42 (v5).toNatClampNeg (p4.1 13 23 (v5).toNatClampNeg)
    kg30 p5 v1 v2 v3 v4 (v5 + (cn 1)))))))
  else (
    (inb v3 6) ∧ (
    if (p.1 13 6 (v3).toNatClampNeg) = 0 then (
      (inb v1 44) ∧ (
      (G245 p v3 v4 v2 (p.1 13 17 (v1).toNatClampNeg)) ∧ (
      let p3 : PM := F245 p v3 v4 v2 (p.1 13 17 (v1).toNatClampNeg)
      (G250 p3 v3 v4 v2) ∧ (
      kg147 p3 v1 v2 v3 v4 (F250 p3 v3 v4 v2)))))
    else (
      (inb v3 6) ∧ (
      if (p.1 13 6 (v3).toNatClampNeg) = (cn 2) then (
        (inb v1 44) ∧ (
        (G246 p v3 v4 v2 (p.1 13 17 (v1).toNatClampNeg)) ∧ (
        let p2 : PM := F246 p v3 v4 v2 (p.1 13 17 (v1).toNatClampNeg)
        (G250 p2 v3 v4 v2) ∧ (
        kg147 p2 v1 v2 v3 v4 (F250 p2 v3 v4 v2)))))
      else (
        (inb v1 44) ∧ (
        (G248 p v3 v4 v2 (p.1 13 17 (v1).toNatClampNeg)) ∧ (
        let p1 : PM := F248 p v3 v4 v2 (p.1 13 17 (v1).toNatClampNeg)
        (G250 p1 v3 v4 v2) ∧ (
        kg147 p1 v1 v2 v3 v4 (F250 p1 v3 v4 v2)))))))))
noncomputable def g12_servesAll_30 (n : Nat) : PM → Int32 → Int32 → Int32 → Int32 → Int32 → Prop := Nat.rec (motive := fun _ => PM → Int32 → Int32 → Int32 → Int32 → Int32 → Prop) (fun _ _ _ _ _ _ => False) (fun _ ih => bg12_servesAll_30 v12_showsNow g12_showsNow v12_sharesByTurns g12_sharesByTurns v12_sharesBySize g12_sharesBySize v12_sharesOut g12_sharesOut v12_served g12_served ih (g12_servesAll_147 FU)) n
theorem eg12_servesAll_30 (n : Nat) (p : PM) (v1 : Int32) (v2 : Int32) (v3 : Int32) (v4 : Int32) (v5 : Int32) : g12_servesAll_30 (n + 1) p v1 v2 v3 v4 v5 = bg12_servesAll_30 v12_showsNow g12_showsNow v12_sharesByTurns g12_sharesByTurns v12_sharesBySize g12_sharesBySize v12_sharesOut g12_sharesOut v12_served g12_served (g12_servesAll_30 n) (g12_servesAll_147 FU) p v1 v2 v3 v4 v5 := rfl
noncomputable def bv12_servesAll (F243 : PM → PM) (kv30 : PM → Int32 → Int32 → Int32 → Int32 → Int32 → PM) (p : PM) (v1 : Int32) (v2 : Int32) : PM :=
  let x1 : Int32 := (p.1 13 16 (v1).toNatClampNeg)
  if (p.1 15 4 (v1).toNatClampNeg) = 0 then (
    let p3 : PM := F243 p
    kv30 p3 v1 v2 x1 (cn 1) (cn 0))
  else (
    let p2 : PM := F243 p
    kv30 p2 v1 v2 x1 (cn 0) (cn 0))
noncomputable def v12_servesAll (p : PM) (v1 : Int32) (v2 : Int32) : PM := bv12_servesAll v12_clearsGets (v12_servesAll_30 FU) p v1 v2
noncomputable def bg12_servesAll (F243 : PM → PM) (G243 : PM → Prop) (kg30 : PM → Int32 → Int32 → Int32 → Int32 → Int32 → Prop) (p : PM) (v1 : Int32) (v2 : Int32) : Prop :=
  (inb v1 44) ∧ (
  let x1 : Int32 := (p.1 13 16 (v1).toNatClampNeg)
  (inb v1 44) ∧ (
  if (p.1 15 4 (v1).toNatClampNeg) = 0 then (
    (G243 p) ∧ (
    let p3 : PM := F243 p
    kg30 p3 v1 v2 x1 (cn 1) (cn 0)))
  else (
    (G243 p) ∧ (
    let p2 : PM := F243 p
    kg30 p2 v1 v2 x1 (cn 0) (cn 0)))))
noncomputable def g12_servesAll (p : PM) (v1 : Int32) (v2 : Int32) : Prop := bg12_servesAll v12_clearsGets g12_clearsGets (g12_servesAll_30 FU) p v1 v2
noncomputable def bv12_hasOwn_5 (p : PM) (F241 : PM → Int32 → Int32 → Int32 → Int32 → Int32) (kv5 : Int32 → Int32 → Int32 → Int32 → Int32) (v1 : Int32) (v2 : Int32) (v3 : Int32) (v4 : Int32) : Int32 :=
  if v4 < (cn 44) then (
    if v3 = 0 then (
      if (p.1 15 4 (v1).toNatClampNeg) = 0 then (
        if (F241 p v4 (p.1 13 16 (v1).toNatClampNeg) (cn 1) v2) = 0 then (
          kv5 v1 v2 (cn 0) (v4 + (cn 1)))
        else (
          if ((p.1 13 15 (v4).toNatClampNeg) / (cn 2)) = ((p.1 13 15 (v1).toNatClampNeg) / (cn 2)) then (
            kv5 v1 v2 (cn 1) (v4 + (cn 1)))
          else (
            kv5 v1 v2 (cn 0) (v4 + (cn 1)))))
      else (
        if (F241 p v4 (p.1 13 16 (v1).toNatClampNeg) (cn 0) v2) = 0 then (
          kv5 v1 v2 (cn 0) (v4 + (cn 1)))
        else (
          if ((p.1 13 15 (v4).toNatClampNeg) / (cn 2)) = ((p.1 13 15 (v1).toNatClampNeg) / (cn 2)) then (
            kv5 v1 v2 (cn 1) (v4 + (cn 1)))
          else (
            kv5 v1 v2 (cn 0) (v4 + (cn 1))))))
    else (
      kv5 v1 v2 (cn 1) (v4 + (cn 1))))
  else (
    v3)
noncomputable def v12_hasOwn_5 (p : PM) (n : Nat) : Int32 → Int32 → Int32 → Int32 → Int32 := Nat.rec (motive := fun _ => Int32 → Int32 → Int32 → Int32 → Int32) (fun _ _ _ _ => 0) (fun _ ih => bv12_hasOwn_5 p v12_isAt ih) n
theorem ev12_hasOwn_5 (p : PM) (n : Nat) (v1 : Int32) (v2 : Int32) (v3 : Int32) (v4 : Int32) : v12_hasOwn_5 p (n + 1) v1 v2 v3 v4 = bv12_hasOwn_5 p v12_isAt (v12_hasOwn_5 p n) v1 v2 v3 v4 := rfl
noncomputable def bg12_hasOwn_5 (p : PM) (F241 : PM → Int32 → Int32 → Int32 → Int32 → Int32) (G241 : PM → Int32 → Int32 → Int32 → Int32 → Prop) (kg5 : Int32 → Int32 → Int32 → Int32 → Prop) (v1 : Int32) (v2 : Int32) (v3 : Int32) (v4 : Int32) : Prop :=
  if v4 < (cn 44) then (
    if v3 = 0 then (
      (inb v1 44) ∧ (
      (inb v1 44) ∧ (
      if (p.1 15 4 (v1).toNatClampNeg) = 0 then (
        (G241 p v4 (p.1 13 16 (v1).toNatClampNeg) (cn 1) v2) ∧ (
        if (F241 p v4 (p.1 13 16 (v1).toNatClampNeg) (cn 1) v2) = 0 then (
          kg5 v1 v2 (cn 0) (v4 + (cn 1)))
        else (
          (inb v4 44) ∧ (
          (inb v1 44) ∧ (
          if ((p.1 13 15 (v4).toNatClampNeg) / (cn 2)) = ((p.1 13 15 (v1).toNatClampNeg) / (cn 2)) then (
            kg5 v1 v2 (cn 1) (v4 + (cn 1)))
          else (
            kg5 v1 v2 (cn 0) (v4 + (cn 1))))))))
      else (
        (G241 p v4 (p.1 13 16 (v1).toNatClampNeg) (cn 0) v2) ∧ (
        if (F241 p v4 (p.1 13 16 (v1).toNatClampNeg) (cn 0) v2) = 0 then (
          kg5 v1 v2 (cn 0) (v4 + (cn 1)))
        else (
          (inb v4 44) ∧ (
          (inb v1 44) ∧ (
          if ((p.1 13 15 (v4).toNatClampNeg) / (cn 2)) = ((p.1 13 15 (v1).toNatClampNeg) / (cn 2)) then (
            kg5 v1 v2 (cn 1) (v4 + (cn 1)))
          else (
            kg5 v1 v2 (cn 0) (v4 + (cn 1)))))))))))
    else (
      kg5 v1 v2 (cn 1) (v4 + (cn 1))))
  else (
    (b01 v3) ∧ (
    True))
noncomputable def g12_hasOwn_5 (p : PM) (n : Nat) : Int32 → Int32 → Int32 → Int32 → Prop := Nat.rec (motive := fun _ => Int32 → Int32 → Int32 → Int32 → Prop) (fun _ _ _ _ => False) (fun _ ih => bg12_hasOwn_5 p v12_isAt g12_isAt ih) n
theorem eg12_hasOwn_5 (p : PM) (n : Nat) (v1 : Int32) (v2 : Int32) (v3 : Int32) (v4 : Int32) : g12_hasOwn_5 p (n + 1) v1 v2 v3 v4 = bg12_hasOwn_5 p v12_isAt g12_isAt (g12_hasOwn_5 p n) v1 v2 v3 v4 := rfl
noncomputable def bv12_hasOwn (p : PM) (kv5 : Int32 → Int32 → Int32 → Int32 → Int32) (v1 : Int32) (v2 : Int32) : Int32 :=
  kv5 v1 v2 (cn 0) (cn 0)
noncomputable def v12_hasOwn (p : PM) (v1 : Int32) (v2 : Int32) : Int32 := bv12_hasOwn p (v12_hasOwn_5 p FU) v1 v2
noncomputable def bg12_hasOwn (p : PM) (kg5 : Int32 → Int32 → Int32 → Int32 → Prop) (v1 : Int32) (v2 : Int32) : Prop :=
  kg5 v1 v2 (cn 0) (cn 0)
noncomputable def g12_hasOwn (p : PM) (v1 : Int32) (v2 : Int32) : Prop := bg12_hasOwn p (g12_hasOwn_5 p FU) v1 v2
noncomputable def bv12_removesOwn_2 (F241 : PM → Int32 → Int32 → Int32 → Int32 → Int32) (kv2 : PM → Int32 → Int32 → Int32 → PM) (p : PM) (v1 : Int32) (v2 : Int32) (v3 : Int32) : PM :=
  if v3 < (cn 44) then (
    if (p.1 15 4 (v1).toNatClampNeg) = 0 then (
      if (F241 p v3 (p.1 13 16 (v1).toNatClampNeg) (cn 1) v2) = 0 then (
        kv2 p v1 v2 (v3 + (cn 1)))
      else (
        if ((p.1 13 15 (v3).toNatClampNeg) / (cn 2)) = ((p.1 13 15 (v1).toNatClampNeg) / (cn 2)) then (
          let p2 : PM := pI p 15 3 (v3).toNatClampNeg (cn 0)
          kv2 p2 v1 v2 (v3 + (cn 1)))
        else (
          kv2 p v1 v2 (v3 + (cn 1)))))
    else (
      if (F241 p v3 (p.1 13 16 (v1).toNatClampNeg) (cn 0) v2) = 0 then (
        kv2 p v1 v2 (v3 + (cn 1)))
      else (
        if ((p.1 13 15 (v3).toNatClampNeg) / (cn 2)) = ((p.1 13 15 (v1).toNatClampNeg) / (cn 2)) then (
          let p1 : PM := pI p 15 3 (v3).toNatClampNeg (cn 0)
          kv2 p1 v1 v2 (v3 + (cn 1)))
        else (
          kv2 p v1 v2 (v3 + (cn 1))))))
  else (
    p)
noncomputable def v12_removesOwn_2 (n : Nat) : PM → Int32 → Int32 → Int32 → PM := Nat.rec (motive := fun _ => PM → Int32 → Int32 → Int32 → PM) (fun p _ _ _ => p) (fun _ ih => bv12_removesOwn_2 v12_isAt ih) n
theorem ev12_removesOwn_2 (n : Nat) (p : PM) (v1 : Int32) (v2 : Int32) (v3 : Int32) : v12_removesOwn_2 (n + 1) p v1 v2 v3 = bv12_removesOwn_2 v12_isAt (v12_removesOwn_2 n) p v1 v2 v3 := rfl
noncomputable def bg12_removesOwn_2 (F241 : PM → Int32 → Int32 → Int32 → Int32 → Int32) (G241 : PM → Int32 → Int32 → Int32 → Int32 → Prop) (kg2 : PM → Int32 → Int32 → Int32 → Prop) (p : PM) (v1 : Int32) (v2 : Int32) (v3 : Int32) : Prop :=
  if v3 < (cn 44) then (
    (inb v1 44) ∧ (
    (inb v1 44) ∧ (
    if (p.1 15 4 (v1).toNatClampNeg) = 0 then (
      (G241 p v3 (p.1 13 16 (v1).toNatClampNeg) (cn 1) v2) ∧ (
      if (F241 p v3 (p.1 13 16 (v1).toNatClampNeg) (cn 1) v2) = 0 then (
        kg2 p v1 v2 (v3 + (cn 1)))
      else (
        (inb v3 44) ∧ (
        (inb v1 44) ∧ (
        if ((p.1 13 15 (v3).toNatClampNeg) / (cn 2)) = ((p.1 13 15 (v1).toNatClampNeg) / (cn 2)) then (
          (inb v3 44) ∧ (
          let p2 : PM := pI p 15 3 (v3).toNatClampNeg (cn 0)
          kg2 p2 v1 v2 (v3 + (cn 1))))
        else (
          kg2 p v1 v2 (v3 + (cn 1))))))))
    else (
      (G241 p v3 (p.1 13 16 (v1).toNatClampNeg) (cn 0) v2) ∧ (
      if (F241 p v3 (p.1 13 16 (v1).toNatClampNeg) (cn 0) v2) = 0 then (
        kg2 p v1 v2 (v3 + (cn 1)))
      else (
        (inb v3 44) ∧ (
        (inb v1 44) ∧ (
        if ((p.1 13 15 (v3).toNatClampNeg) / (cn 2)) = ((p.1 13 15 (v1).toNatClampNeg) / (cn 2)) then (
          (inb v3 44) ∧ (
          let p1 : PM := pI p 15 3 (v3).toNatClampNeg (cn 0)
          kg2 p1 v1 v2 (v3 + (cn 1))))
        else (
          kg2 p v1 v2 (v3 + (cn 1)))))))))))
  else (
    True)
noncomputable def g12_removesOwn_2 (n : Nat) : PM → Int32 → Int32 → Int32 → Prop := Nat.rec (motive := fun _ => PM → Int32 → Int32 → Int32 → Prop) (fun _ _ _ _ => False) (fun _ ih => bg12_removesOwn_2 v12_isAt g12_isAt ih) n
theorem eg12_removesOwn_2 (n : Nat) (p : PM) (v1 : Int32) (v2 : Int32) (v3 : Int32) : g12_removesOwn_2 (n + 1) p v1 v2 v3 = bg12_removesOwn_2 v12_isAt g12_isAt (g12_removesOwn_2 n) p v1 v2 v3 := rfl
noncomputable def bv12_removesOwn (kv2 : PM → Int32 → Int32 → Int32 → PM) (p : PM) (v1 : Int32) (v2 : Int32) : PM :=
  kv2 p v1 v2 (cn 0)
noncomputable def v12_removesOwn (p : PM) (v1 : Int32) (v2 : Int32) : PM := bv12_removesOwn (v12_removesOwn_2 FU) p v1 v2
noncomputable def bg12_removesOwn (kg2 : PM → Int32 → Int32 → Int32 → Prop) (p : PM) (v1 : Int32) (v2 : Int32) : Prop :=
  kg2 p v1 v2 (cn 0)
noncomputable def g12_removesOwn (p : PM) (v1 : Int32) (v2 : Int32) : Prop := bg12_removesOwn (g12_removesOwn_2 FU) p v1 v2
noncomputable def bv12_beginsAuction (p : PM) (v1 : Int32) (v2 : Int32) (v3 : Int32) : PM :=
  let p1 : PM := pI p 13 12 (v1).toNatClampNeg v2
  let p2 : PM := pI p1 13 13 (v1).toNatClampNeg v3
  let p3 : PM := pI p2 15 2 (v1).toNatClampNeg (cn 0)
  p3
noncomputable def v12_beginsAuction (p : PM) (v1 : Int32) (v2 : Int32) (v3 : Int32) : PM := bv12_beginsAuction p v1 v2 v3
noncomputable def bg12_beginsAuction (p : PM) (v1 : Int32) (v2 : Int32) (v3 : Int32) : Prop :=
  (inb v1 6) ∧ (
  let p1 : PM := pI p 13 12 (v1).toNatClampNeg v2
  (inb v1 6) ∧ (
  let p2 : PM := pI p1 13 13 (v1).toNatClampNeg v3
  (inb v1 6) ∧ (
  let p3 : PM := pI p2 15 2 (v1).toNatClampNeg (cn 0)
  True)))
noncomputable def g12_beginsAuction (p : PM) (v1 : Int32) (v2 : Int32) (v3 : Int32) : Prop := bg12_beginsAuction p v1 v2 v3
noncomputable def bv12_looks_64 (F220 : PM → Int32 → Int32 → Int32) (F251 : PM → Int32 → Int32 → PM) (F252 : PM → Int32 → Int32 → Int32) (F253 : PM → Int32 → Int32 → PM) (F254 : PM → Int32 → Int32 → Int32 → PM) (p : PM) (v1 : Int32) (v2 : Int32) (v3 : Int32) : Int32 × PM :=
  if (F220 p v2 v3) = 0 then (
    let p7 : PM := F254 p v2 ((p.1 12 1 17) + (cn 5)) (cn 0)
    ((cn 0), p7))
  else (
    if 0 < (p.1 13 8 (v2).toNatClampNeg) then (
      if (F252 p v1 v3) = 0 then (
        let p2 : PM := F251 p v1 v3
        ((p2.1 15 3 (v1).toNatClampNeg), p2))
      else (
        if (p.1 13 8 (v2).toNatClampNeg) = (cn 2) then (
          let p5 : PM := pI p 15 3 (v1).toNatClampNeg (cn 1)
          if (p5.1 13 8 (v2).toNatClampNeg) = (cn 2) then (
            let p6 : PM := F253 p5 v1 v3
            ((p6.1 15 3 (v1).toNatClampNeg), p6))
          else (
            ((p5.1 15 3 (v1).toNatClampNeg), p5)))
        else (
          let p3 : PM := pI p 15 3 (v1).toNatClampNeg (cn 0)
          if (p3.1 13 8 (v2).toNatClampNeg) = (cn 2) then (
            let p4 : PM := F253 p3 v1 v3
            ((p4.1 15 3 (v1).toNatClampNeg), p4))
          else (
            ((p3.1 15 3 (v1).toNatClampNeg), p3)))))
    else (
      let p1 : PM := F251 p v1 v3
      ((p1.1 15 3 (v1).toNatClampNeg), p1)))
noncomputable def v12_looks_64 (p : PM) (v1 : Int32) (v2 : Int32) (v3 : Int32) : Int32 × PM := bv12_looks_64 v12_isNear v12_servesAll v12_hasOwn v12_removesOwn v12_beginsAuction p v1 v2 v3
noncomputable def bg12_looks_64 (F220 : PM → Int32 → Int32 → Int32) (G220 : PM → Int32 → Int32 → Prop) (F251 : PM → Int32 → Int32 → PM) (G251 : PM → Int32 → Int32 → Prop) (F252 : PM → Int32 → Int32 → Int32) (G252 : PM → Int32 → Int32 → Prop) (F253 : PM → Int32 → Int32 → PM) (G253 : PM → Int32 → Int32 → Prop) (F254 : PM → Int32 → Int32 → Int32 → PM) (G254 : PM → Int32 → Int32 → Int32 → Prop) (p : PM) (v1 : Int32) (v2 : Int32) (v3 : Int32) : Prop :=
  (G220 p v2 v3) ∧ (
  if (F220 p v2 v3) = 0 then (
    (G254 p v2 ((p.1 12 1 17) + (cn 5)) (cn 0)) ∧ (
    let p7 : PM := F254 p v2 ((p.1 12 1 17) + (cn 5)) (cn 0)
    True))
  else (
    (inb v2 6) ∧ (
    if 0 < (p.1 13 8 (v2).toNatClampNeg) then (
      (G252 p v1 v3) ∧ (
      if (F252 p v1 v3) = 0 then (
        (G251 p v1 v3) ∧ (
        let p2 : PM := F251 p v1 v3
        (inb v1 44) ∧ (
        (b01 (p2.1 15 3 (v1).toNatClampNeg)) ∧ (
        True))))
      else (
        (inb v2 6) ∧ (
        if (p.1 13 8 (v2).toNatClampNeg) = (cn 2) then (
          (inb v1 44) ∧ (
          let p5 : PM := pI p 15 3 (v1).toNatClampNeg (cn 1)
          (inb v2 6) ∧ (
          if (p5.1 13 8 (v2).toNatClampNeg) = (cn 2) then (
            (G253 p5 v1 v3) ∧ (
            let p6 : PM := F253 p5 v1 v3
            (inb v1 44) ∧ (
            (b01 (p6.1 15 3 (v1).toNatClampNeg)) ∧ (
            True))))
          else (
            (inb v1 44) ∧ (
            (b01 (p5.1 15 3 (v1).toNatClampNeg)) ∧ (
            True))))))
        else (
          (inb v1 44) ∧ (
          let p3 : PM := pI p 15 3 (v1).toNatClampNeg (cn 0)
          (inb v2 6) ∧ (
          if (p3.1 13 8 (v2).toNatClampNeg) = (cn 2) then (
            (G253 p3 v1 v3) ∧ (
            let p4 : PM := F253 p3 v1 v3
            (inb v1 44) ∧ (
            (b01 (p4.1 15 3 (v1).toNatClampNeg)) ∧ (
            True))))
          else (
            (inb v1 44) ∧ (
            (b01 (p3.1 15 3 (v1).toNatClampNeg)) ∧ (
            True))))))))))
    else (
      (G251 p v1 v3) ∧ (
      let p1 : PM := F251 p v1 v3
      (inb v1 44) ∧ (
      (b01 (p1.1 15 3 (v1).toNatClampNeg)) ∧ (
      True)))))))
noncomputable def g12_looks_64 (p : PM) (v1 : Int32) (v2 : Int32) (v3 : Int32) : Prop := bg12_looks_64 v12_isNear g12_isNear v12_servesAll g12_servesAll v12_hasOwn g12_hasOwn v12_removesOwn g12_removesOwn v12_beginsAuction g12_beginsAuction p v1 v2 v3
noncomputable def bv12_looks (F239 : PM → Int32 → Int32 → Int32 → Int32) (F240 : PM → Int32 → Int32 → Int32 → Int32) (kv64 : PM → Int32 → Int32 → Int32 → Int32 × PM) (p : PM) (v1 : Int32) : Int32 × PM :=
  let x1 : Int32 := (p.1 13 16 (v1).toNatClampNeg)
  if (p.1 15 4 (v1).toNatClampNeg) = 0 then (
    let x3 : Int32 := (F240 p x1 (cn 1) (cn 1))
    if x3 = (cn (-100000)) then (
      ((cn 0), p))
    else (
      if (p.1 15 5 (v1).toNatClampNeg) = 0 then (
        if (F239 p x3 (p.1 13 18 (v1).toNatClampNeg) (p.1 15 4 (v1).toNatClampNeg)) = 0 then (
          kv64 p v1 x1 x3)
        else (
          ((cn 0), p)))
      else (
        kv64 p v1 x1 x3)))
  else (
    let x2 : Int32 := (F240 p x1 (cn 0) (cn 1))
    if x2 = (cn (-100000)) then (
      ((cn 0), p))
    else (
      if (p.1 15 5 (v1).toNatClampNeg) = 0 then (
        if (F239 p x2 (p.1 13 18 (v1).toNatClampNeg) (p.1 15 4 (v1).toNatClampNeg)) = 0 then (
          kv64 p v1 x1 x2)
        else (
          ((cn 0), p)))
      else (
        kv64 p v1 x1 x2)))
noncomputable def v12_looks (p : PM) (v1 : Int32) : Int32 × PM := bv12_looks v12_isBetter v12_bestOf v12_looks_64 p v1
noncomputable def bg12_looks (F239 : PM → Int32 → Int32 → Int32 → Int32) (G239 : PM → Int32 → Int32 → Int32 → Prop) (F240 : PM → Int32 → Int32 → Int32 → Int32) (G240 : PM → Int32 → Int32 → Int32 → Prop) (kg64 : PM → Int32 → Int32 → Int32 → Prop) (p : PM) (v1 : Int32) : Prop :=
  (inb v1 44) ∧ (
  let x1 : Int32 := (p.1 13 16 (v1).toNatClampNeg)
  (inb v1 44) ∧ (
  if (p.1 15 4 (v1).toNatClampNeg) = 0 then (
    (G240 p x1 (cn 1) (cn 1)) ∧ (
    let x3 : Int32 := (F240 p x1 (cn 1) (cn 1))
    if x3 = (cn (-100000)) then (
      True)
    else (
      (inb v1 44) ∧ (
      if (p.1 15 5 (v1).toNatClampNeg) = 0 then (
        (inb v1 44) ∧ (
        (inb v1 44) ∧ (
        (G239 p x3 (p.1 13 18 (v1).toNatClampNeg) (p.1 15 4 (v1).toNatClampNeg)) ∧ (
        if (F239 p x3 (p.1 13 18 (v1).toNatClampNeg) (p.1 15 4 (v1).toNatClampNeg)) = 0 then (
          kg64 p v1 x1 x3)
        else (
          True)))))
      else (
        kg64 p v1 x1 x3)))))
  else (
    (G240 p x1 (cn 0) (cn 1)) ∧ (
    let x2 : Int32 := (F240 p x1 (cn 0) (cn 1))
    if x2 = (cn (-100000)) then (
      True)
    else (
      (inb v1 44) ∧ (
      if (p.1 15 5 (v1).toNatClampNeg) = 0 then (
        (inb v1 44) ∧ (
        (inb v1 44) ∧ (
        (G239 p x2 (p.1 13 18 (v1).toNatClampNeg) (p.1 15 4 (v1).toNatClampNeg)) ∧ (
        if (F239 p x2 (p.1 13 18 (v1).toNatClampNeg) (p.1 15 4 (v1).toNatClampNeg)) = 0 then (
          kg64 p v1 x1 x2)
        else (
          True)))))
      else (
        kg64 p v1 x1 x2)))))))
noncomputable def g12_looks (p : PM) (v1 : Int32) : Prop := bg12_looks v12_isBetter g12_isBetter v12_bestOf g12_bestOf g12_looks_64 p v1
noncomputable def bv12_matches_9 (F228 : PM → Int32 → PM) (F255 : PM → Int32 → Int32 × PM) (kv9 : PM → Int32 → Int32 → PM) (p : PM) (v1 : Int32) (v2 : Int32) : PM :=
  if v2 = 0 then (
    if (p.1 15 3 (v1).toNatClampNeg) = 0 then (
      if (p.1 15 3 (v1).toNatClampNeg) = 0 then (
        p)
      else (
        let p1 : PM := F228 p v1
        p1))
    else (
      if (p.1 15 5 (v1).toNatClampNeg) = 0 then (
        if (p.1 13 20 (v1).toNatClampNeg) = (cn (-100000)) then (
          let p5 : PM := pI p 15 3 (v1).toNatClampNeg (cn 0)
          if (p5.1 15 3 (v1).toNatClampNeg) = 0 then (
            p5)
          else (
            let p6 : PM := F228 p5 v1
            p6))
        else (
          if (p.1 15 3 (v1).toNatClampNeg) = 0 then (
            p)
          else (
            let p4 : PM := F228 p v1
            p4)))
      else (
        let p2 : PM := pI p 15 3 (v1).toNatClampNeg (cn 0)
        if (p2.1 15 3 (v1).toNatClampNeg) = 0 then (
          p2)
        else (
          let p3 : PM := F228 p2 v1
          p3))))
  else (
    let r7 : Int32 × PM := F255 p v1
    kv9 r7.2 v1 r7.1)
noncomputable def v12_matches_9 (n : Nat) : PM → Int32 → Int32 → PM := Nat.rec (motive := fun _ => PM → Int32 → Int32 → PM) (fun p _ _ => p) (fun _ ih => bv12_matches_9 v12_comes v12_looks ih) n
theorem ev12_matches_9 (n : Nat) (p : PM) (v1 : Int32) (v2 : Int32) : v12_matches_9 (n + 1) p v1 v2 = bv12_matches_9 v12_comes v12_looks (v12_matches_9 n) p v1 v2 := rfl
noncomputable def bg12_matches_9 (F228 : PM → Int32 → PM) (G228 : PM → Int32 → Prop) (F255 : PM → Int32 → Int32 × PM) (G255 : PM → Int32 → Prop) (kg9 : PM → Int32 → Int32 → Prop) (p : PM) (v1 : Int32) (v2 : Int32) : Prop :=
  if v2 = 0 then (
    (inb v1 44) ∧ (
    if (p.1 15 3 (v1).toNatClampNeg) = 0 then (
      (inb v1 44) ∧ (
      if (p.1 15 3 (v1).toNatClampNeg) = 0 then (
        True)
      else (
        (G228 p v1) ∧ (
        let p1 : PM := F228 p v1
        True))))
    else (
      (inb v1 44) ∧ (
      if (p.1 15 5 (v1).toNatClampNeg) = 0 then (
        (inb v1 44) ∧ (
        if (p.1 13 20 (v1).toNatClampNeg) = (cn (-100000)) then (
          (inb v1 44) ∧ (
          let p5 : PM := pI p 15 3 (v1).toNatClampNeg (cn 0)
          (inb v1 44) ∧ (
          if (p5.1 15 3 (v1).toNatClampNeg) = 0 then (
            True)
          else (
            (G228 p5 v1) ∧ (
            let p6 : PM := F228 p5 v1
            True)))))
        else (
          (inb v1 44) ∧ (
          if (p.1 15 3 (v1).toNatClampNeg) = 0 then (
            True)
          else (
            (G228 p v1) ∧ (
            let p4 : PM := F228 p v1
            True))))))
      else (
        (inb v1 44) ∧ (
        let p2 : PM := pI p 15 3 (v1).toNatClampNeg (cn 0)
        (inb v1 44) ∧ (
        if (p2.1 15 3 (v1).toNatClampNeg) = 0 then (
          True)
        else (
          (G228 p2 v1) ∧ (
          let p3 : PM := F228 p2 v1
          True)))))))))
  else (
    (G255 p v1) ∧ (
    let r7 : Int32 × PM := F255 p v1
    kg9 r7.2 v1 r7.1))
noncomputable def g12_matches_9 (n : Nat) : PM → Int32 → Int32 → Prop := Nat.rec (motive := fun _ => PM → Int32 → Int32 → Prop) (fun _ _ _ => False) (fun _ ih => bg12_matches_9 v12_comes g12_comes v12_looks g12_looks ih) n
theorem eg12_matches_9 (n : Nat) (p : PM) (v1 : Int32) (v2 : Int32) : g12_matches_9 (n + 1) p v1 v2 = bg12_matches_9 v12_comes g12_comes v12_looks g12_looks (g12_matches_9 n) p v1 v2 := rfl
noncomputable def bv12_matches (kv9 : PM → Int32 → Int32 → PM) (p : PM) (v1 : Int32) : PM :=
  let p1 : PM := pI p 13 24 (v1).toNatClampNeg (cn 0)
  kv9 p1 v1 (cn 1)
noncomputable def v12_matches (p : PM) (v1 : Int32) : PM := bv12_matches (v12_matches_9 FU) p v1
noncomputable def bg12_matches (kg9 : PM → Int32 → Int32 → Prop) (p : PM) (v1 : Int32) : Prop :=
  (inb v1 44) ∧ (
  let p1 : PM := pI p 13 24 (v1).toNatClampNeg (cn 0)
  kg9 p1 v1 (cn 1))
noncomputable def g12_matches (p : PM) (v1 : Int32) : Prop := bg12_matches (g12_matches_9 FU) p v1
noncomputable def bv12_enters (F218 : PM → Int32 → Int32) (F228 : PM → Int32 → PM) (F256 : PM → Int32 → PM) (p : PM) (v1 : Int32) : PM :=
  if (F218 p (p.1 13 16 (v1).toNatClampNeg)) = 0 then (
    let p1 : PM := F228 p v1
    p1)
  else (
    let p2 : PM := F256 p v1
    p2)
noncomputable def v12_enters (p : PM) (v1 : Int32) : PM := bv12_enters v12_isOpen v12_comes v12_matches p v1
noncomputable def bg12_enters (F218 : PM → Int32 → Int32) (G218 : PM → Int32 → Prop) (F228 : PM → Int32 → PM) (G228 : PM → Int32 → Prop) (F256 : PM → Int32 → PM) (G256 : PM → Int32 → Prop) (p : PM) (v1 : Int32) : Prop :=
  (inb v1 44) ∧ (
  (G218 p (p.1 13 16 (v1).toNatClampNeg)) ∧ (
  if (F218 p (p.1 13 16 (v1).toNatClampNeg)) = 0 then (
    (G228 p v1) ∧ (
    let p1 : PM := F228 p v1
    True))
  else (
    (G256 p v1) ∧ (
    let p2 : PM := F256 p v1
    True))))
noncomputable def g12_enters (p : PM) (v1 : Int32) : Prop := bg12_enters v12_isOpen g12_isOpen v12_comes g12_comes v12_matches g12_matches p v1
noncomputable def bv12_readyStop_4 (p : PM) (F218 : PM → Int32 → Int32) (kv4 : Int32 → Int32 → Int32) (v1 : Int32) (v2 : Int32) : Int32 :=
  if v2 < (cn 44) then (
    if (p.1 15 3 (v2).toNatClampNeg) = 0 then (
      kv4 v1 (v2 + (cn 1)))
    else (
      if (p.1 13 19 (v2).toNatClampNeg) = (cn 3) then (
        if (p.1 13 24 (v2).toNatClampNeg) = (cn 2) then (
          if (F218 p (p.1 13 16 (v2).toNatClampNeg)) = 0 then (
            kv4 v1 (v2 + (cn 1)))
          else (
            if (p.1 15 4 (v2).toNatClampNeg) = 0 then (
              if (p.1 13 27 (v2).toNatClampNeg) < (p.1 13 10 ((p.1 13 16 (v2).toNatClampNeg)).toNatClampNeg) then (
                kv4 v1 (v2 + (cn 1)))
              else (
                if v1 < 0 then (
                  kv4 v2 (v2 + (cn 1)))
                else (
                  if (p.1 13 14 (v2).toNatClampNeg) < (p.1 13 14 (v1).toNatClampNeg) then (
                    kv4 v2 (v2 + (cn 1)))
                  else (
                    kv4 v1 (v2 + (cn 1))))))
            else (
              if (p.1 13 10 ((p.1 13 16 (v2).toNatClampNeg)).toNatClampNeg) < (p.1 13 27 (v2).toNatClampNeg) then (
                kv4 v1 (v2 + (cn 1)))
              else (
                if v1 < 0 then (
                  kv4 v2 (v2 + (cn 1)))
                else (
                  if (p.1 13 14 (v2).toNatClampNeg) < (p.1 13 14 (v1).toNatClampNeg) then (
                    kv4 v2 (v2 + (cn 1)))
                  else (
                    kv4 v1 (v2 + (cn 1))))))))
        else (
          kv4 v1 (v2 + (cn 1))))
      else (
        kv4 v1 (v2 + (cn 1)))))
  else (
    v1)
noncomputable def v12_readyStop_4 (p : PM) (n : Nat) : Int32 → Int32 → Int32 := Nat.rec (motive := fun _ => Int32 → Int32 → Int32) (fun _ _ => 0) (fun _ ih => bv12_readyStop_4 p v12_isOpen ih) n
theorem ev12_readyStop_4 (p : PM) (n : Nat) (v1 : Int32) (v2 : Int32) : v12_readyStop_4 p (n + 1) v1 v2 = bv12_readyStop_4 p v12_isOpen (v12_readyStop_4 p n) v1 v2 := rfl
noncomputable def bg12_readyStop_4 (p : PM) (F218 : PM → Int32 → Int32) (G218 : PM → Int32 → Prop) (kg4 : Int32 → Int32 → Prop) (v1 : Int32) (v2 : Int32) : Prop :=
  if v2 < (cn 44) then (
    (inb v2 44) ∧ (
    if (p.1 15 3 (v2).toNatClampNeg) = 0 then (
      kg4 v1 (v2 + (cn 1)))
    else (
      (inb v2 44) ∧ (
      if (p.1 13 19 (v2).toNatClampNeg) = (cn 3) then (
        (inb v2 44) ∧ (
        if (p.1 13 24 (v2).toNatClampNeg) = (cn 2) then (
          (inb v2 44) ∧ (
          (G218 p (p.1 13 16 (v2).toNatClampNeg)) ∧ (
          if (F218 p (p.1 13 16 (v2).toNatClampNeg)) = 0 then (
            kg4 v1 (v2 + (cn 1)))
          else (
            (inb v2 44) ∧ (
            if (p.1 15 4 (v2).toNatClampNeg) = 0 then (
              (inb v2 44) ∧ (
              (inb (p.1 13 16 (v2).toNatClampNeg) 6) ∧ (
              (inb v2 44) ∧ (
              if (p.1 13 27 (v2).toNatClampNeg) < (p.1 13 10 ((p.1 13 16 (v2).toNatClampNeg)).toNatClampNeg) then (
                kg4 v1 (v2 + (cn 1)))
              else (
                if v1 < 0 then (
                  kg4 v2 (v2 + (cn 1)))
                else (
                  (inb v2 44) ∧ (
                  (inb v1 44) ∧ (
                  if (p.1 13 14 (v2).toNatClampNeg) < (p.1 13 14 (v1).toNatClampNeg) then (
                    kg4 v2 (v2 + (cn 1)))
                  else (
                    kg4 v1 (v2 + (cn 1)))))))))))
            else (
              (inb v2 44) ∧ (
              (inb (p.1 13 16 (v2).toNatClampNeg) 6) ∧ (
              (inb v2 44) ∧ (
              if (p.1 13 10 ((p.1 13 16 (v2).toNatClampNeg)).toNatClampNeg) < (p.1 13 27 (v2).toNatClampNeg) then (
                kg4 v1 (v2 + (cn 1)))
              else (
                if v1 < 0 then (
                  kg4 v2 (v2 + (cn 1)))
                else (
                  (inb v2 44) ∧ (
                  (inb v1 44) ∧ (
                  if (p.1 13 14 (v2).toNatClampNeg) < (p.1 13 14 (v1).toNatClampNeg) then (
                    kg4 v2 (v2 + (cn 1)))
                  else (
                    kg4 v1 (v2 + (cn 1))))))))))))))))
        else (
          kg4 v1 (v2 + (cn 1)))))
      else (
        kg4 v1 (v2 + (cn 1)))))))
  else (
    True)
