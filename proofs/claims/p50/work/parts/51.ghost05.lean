/-! the reference as functions, a ghost beside the class (text of wip/whole/lift.py, chosen by wip/p50/ghost.py) -/
noncomputable def g12_firstIn_54 (p : PM) (kg6 : Int32 → Int32 → Int32 → Int32 → Int32 → Prop) (v1 : Int32) (v2 : Int32) (v3 : Int32) (v4 : Int32) (v5 : Int32) (s0 : Int32) : Prop := bg12_firstIn_54 p v12_isBetter g12_isBetter kg6 (g12_firstIn_134 p kg6) v1 v2 v3 v4 v5 s0
noncomputable def bv12_firstIn_6 (p : PM) (F238 : PM → Int32 → Int32 → Int32 → Int32) (F239 : PM → Int32 → Int32 → Int32 → Int32) (kv54 : Int32 → Int32 → Int32 → Int32 → Int32 → Int32 → Int32) (v1 : Int32) (v2 : Int32) (v3 : Int32) (v4 : Int32) (v5 : Int32) : Int32 :=
  if v5 < (cn 44) then (
    if (F238 p v5 v1 v2) = 0 then (
      kv54 v1 v2 v3 v4 v5 (cn 0))
    else (
      if (p.1 15 5 (v5).toNatClampNeg) = 0 then (
        if (F239 p v3 (p.1 13 25 (v5).toNatClampNeg) v2) = 0 then (
          kv54 v1 v2 v3 v4 v5 (cn 1))
        else (
          kv54 v1 v2 v3 v4 v5 (cn 0)))
      else (
        kv54 v1 v2 v3 v4 v5 (cn 1))))
  else (
    v4)
noncomputable def v12_firstIn_6 (p : PM) (n : Nat) : Int32 → Int32 → Int32 → Int32 → Int32 → Int32 := Nat.rec (motive := fun _ => Int32 → Int32 → Int32 → Int32 → Int32 → Int32) (fun _ _ _ _ _ => 0) (fun _ ih => bv12_firstIn_6 p v12_isThere v12_isBetter (v12_firstIn_54 p ih)) n
theorem ev12_firstIn_6 (p : PM) (n : Nat) (v1 : Int32) (v2 : Int32) (v3 : Int32) (v4 : Int32) (v5 : Int32) : v12_firstIn_6 p (n + 1) v1 v2 v3 v4 v5 = bv12_firstIn_6 p v12_isThere v12_isBetter (v12_firstIn_54 p (v12_firstIn_6 p n)) v1 v2 v3 v4 v5 := rfl
noncomputable def bg12_firstIn_6 (p : PM) (F238 : PM → Int32 → Int32 → Int32 → Int32) (G238 : PM → Int32 → Int32 → Int32 → Prop) (F239 : PM → Int32 → Int32 → Int32 → Int32) (G239 : PM → Int32 → Int32 → Int32 → Prop) (kg54 : Int32 → Int32 → Int32 → Int32 → Int32 → Int32 → Prop) (v1 : Int32) (v2 : Int32) (v3 : Int32) (v4 : Int32) (v5 : Int32) : Prop :=
  if v5 < (cn 44) then (
    (G238 p v5 v1 v2) ∧ (
    if (F238 p v5 v1 v2) = 0 then (
      kg54 v1 v2 v3 v4 v5 (cn 0))
    else (
      (inb v5 44) ∧ (
      if (p.1 15 5 (v5).toNatClampNeg) = 0 then (
        (inb v5 44) ∧ (
        (G239 p v3 (p.1 13 25 (v5).toNatClampNeg) v2) ∧ (
        if (F239 p v3 (p.1 13 25 (v5).toNatClampNeg) v2) = 0 then (
          kg54 v1 v2 v3 v4 v5 (cn 1))
        else (
          kg54 v1 v2 v3 v4 v5 (cn 0)))))
      else (
        kg54 v1 v2 v3 v4 v5 (cn 1))))))
  else (
    True)
noncomputable def g12_firstIn_6 (p : PM) (n : Nat) : Int32 → Int32 → Int32 → Int32 → Int32 → Prop := Nat.rec (motive := fun _ => Int32 → Int32 → Int32 → Int32 → Int32 → Prop) (fun _ _ _ _ _ => False) (fun _ ih => bg12_firstIn_6 p v12_isThere g12_isThere v12_isBetter g12_isBetter (g12_firstIn_54 p ih)) n
theorem eg12_firstIn_6 (p : PM) (n : Nat) (v1 : Int32) (v2 : Int32) (v3 : Int32) (v4 : Int32) (v5 : Int32) : g12_firstIn_6 p (n + 1) v1 v2 v3 v4 v5 = bg12_firstIn_6 p v12_isThere g12_isThere v12_isBetter g12_isBetter (g12_firstIn_54 p (g12_firstIn_6 p n)) v1 v2 v3 v4 v5 := rfl
noncomputable def bv12_firstIn (p : PM) (kv6 : Int32 → Int32 → Int32 → Int32 → Int32 → Int32) (v1 : Int32) (v2 : Int32) (v3 : Int32) : Int32 :=
  kv6 v1 v2 v3 (cn (-1)) (cn 0)
noncomputable def v12_firstIn (p : PM) (v1 : Int32) (v2 : Int32) (v3 : Int32) : Int32 := bv12_firstIn p (v12_firstIn_6 p FU) v1 v2 v3
noncomputable def bg12_firstIn (p : PM) (kg6 : Int32 → Int32 → Int32 → Int32 → Int32 → Prop) (v1 : Int32) (v2 : Int32) (v3 : Int32) : Prop :=
  kg6 v1 v2 v3 (cn (-1)) (cn 0)
noncomputable def g12_firstIn (p : PM) (v1 : Int32) (v2 : Int32) (v3 : Int32) : Prop := bg12_firstIn p (g12_firstIn_6 p FU) v1 v2 v3
noncomputable def bv12_tradesAll_17 (F233 : PM → Int32 → Int32 → Int32 → Int32 → Int32 → PM) (F236 : PM → Int32 → Int32 → Int32 → PM) (F237 : PM → Int32 → PM) (F244 : PM → Int32 → Int32 → Int32) (F270 : PM → Int32 → Int32 → Int32 → Int32) (kv17 : PM → Int32 → Int32 → Int32 → Int32 → PM) (p : PM) (v1 : Int32) (v2 : Int32) (v3 : Int32) (v4 : Int32) : PM :=
  if v3 < 0 then (
    p)
  else (
    if v4 < 0 then (
      p)
    else (
      let x1 : Int32 := (F244 p (p.1 13 17 (v3).toNatClampNeg) (p.1 13 17 (v4).toNatClampNeg))
      let p2 : PM := F233 p v1 (p.1 13 15 (v3).toNatClampNeg) (p.1 13 15 (v4).toNatClampNeg) v2 x1
      let p3 : PM := F236 p2 v3 x1 (cn 0)
      let p4 : PM := F236 p3 v4 x1 (cn 0)
      let p5 : PM := F237 p4 v3
      let p6 : PM := F237 p5 v4
      let x7 : Int32 := (F270 p6 v1 (cn 1) v2)
      let x8 : Int32 := (F270 p6 v1 (cn 0) v2)
      kv17 p6 v1 v2 x7 x8))
noncomputable def v12_tradesAll_17 (n : Nat) : PM → Int32 → Int32 → Int32 → Int32 → PM := Nat.rec (motive := fun _ => PM → Int32 → Int32 → Int32 → Int32 → PM) (fun p _ _ _ _ => p) (fun _ ih => bv12_tradesAll_17 v12_deals v12_falls v12_guards v12_least v12_firstIn ih) n
theorem ev12_tradesAll_17 (n : Nat) (p : PM) (v1 : Int32) (v2 : Int32) (v3 : Int32) (v4 : Int32) : v12_tradesAll_17 (n + 1) p v1 v2 v3 v4 = bv12_tradesAll_17 v12_deals v12_falls v12_guards v12_least v12_firstIn (v12_tradesAll_17 n) p v1 v2 v3 v4 := rfl
noncomputable def bg12_tradesAll_17 (F233 : PM → Int32 → Int32 → Int32 → Int32 → Int32 → PM) (G233 : PM → Int32 → Int32 → Int32 → Int32 → Int32 → Prop) (F236 : PM → Int32 → Int32 → Int32 → PM) (G236 : PM → Int32 → Int32 → Int32 → Prop) (F237 : PM → Int32 → PM) (G237 : PM → Int32 → Prop) (F244 : PM → Int32 → Int32 → Int32) (G244 : PM → Int32 → Int32 → Prop) (F270 : PM → Int32 → Int32 → Int32 → Int32) (G270 : PM → Int32 → Int32 → Int32 → Prop) (kg17 : PM → Int32 → Int32 → Int32 → Int32 → Prop) (p : PM) (v1 : Int32) (v2 : Int32) (v3 : Int32) (v4 : Int32) : Prop :=
  if v3 < 0 then (
    True)
  else (
    if v4 < 0 then (
      True)
    else (
      (inb v3 44) ∧ (
      (inb v4 44) ∧ (
      (G244 p (p.1 13 17 (v3).toNatClampNeg) (p.1 13 17 (v4).toNatClampNeg)) ∧ (
      let x1 : Int32 := (F244 p (p.1 13 17 (v3).toNatClampNeg) (p.1 13 17 (v4).toNatClampNeg))
      (inb v3 44) ∧ (
      (inb v4 44) ∧ (
      (G233 p v1 (p.1 13 15 (v3).toNatClampNeg) (p.1 13 15 (v4).toNatClampNeg) v2 x1) ∧ (
      let p2 : PM := F233 p v1 (p.1 13 15 (v3).toNatClampNeg) (p.1 13 15 (v4).toNatClampNeg) v2 x1
      (G236 p2 v3 x1 (cn 0)) ∧ (
      let p3 : PM := F236 p2 v3 x1 (cn 0)
      (G236 p3 v4 x1 (cn 0)) ∧ (
      let p4 : PM := F236 p3 v4 x1 (cn 0)
      (G237 p4 v3) ∧ (
      let p5 : PM := F237 p4 v3
      (G237 p5 v4) ∧ (
      let p6 : PM := F237 p5 v4
      (G270 p6 v1 (cn 1) v2) ∧ (
      let x7 : Int32 := (F270 p6 v1 (cn 1) v2)
      (G270 p6 v1 (cn 0) v2) ∧ (
      let x8 : Int32 := (F270 p6 v1 (cn 0) v2)
      kg17 p6 v1 v2 x7 x8))))))))))))))
noncomputable def g12_tradesAll_17 (n : Nat) : PM → Int32 → Int32 → Int32 → Int32 → Prop := Nat.rec (motive := fun _ => PM → Int32 → Int32 → Int32 → Int32 → Prop) (fun _ _ _ _ _ => False) (fun _ ih => bg12_tradesAll_17 v12_deals g12_deals v12_falls g12_falls v12_guards g12_guards v12_least g12_least v12_firstIn g12_firstIn ih) n
theorem eg12_tradesAll_17 (n : Nat) (p : PM) (v1 : Int32) (v2 : Int32) (v3 : Int32) (v4 : Int32) : g12_tradesAll_17 (n + 1) p v1 v2 v3 v4 = bg12_tradesAll_17 v12_deals g12_deals v12_falls g12_falls v12_guards g12_guards v12_least g12_least v12_firstIn g12_firstIn (g12_tradesAll_17 n) p v1 v2 v3 v4 := rfl
noncomputable def bv12_tradesAll (F270 : PM → Int32 → Int32 → Int32 → Int32) (kv17 : PM → Int32 → Int32 → Int32 → Int32 → PM) (p : PM) (v1 : Int32) (v2 : Int32) : PM :=
  let x1 : Int32 := (F270 p v1 (cn 1) v2)
  let x2 : Int32 := (F270 p v1 (cn 0) v2)
  kv17 p v1 v2 x1 x2
noncomputable def v12_tradesAll (p : PM) (v1 : Int32) (v2 : Int32) : PM := bv12_tradesAll v12_firstIn (v12_tradesAll_17 FU) p v1 v2
noncomputable def bg12_tradesAll (F270 : PM → Int32 → Int32 → Int32 → Int32) (G270 : PM → Int32 → Int32 → Int32 → Prop) (kg17 : PM → Int32 → Int32 → Int32 → Int32 → Prop) (p : PM) (v1 : Int32) (v2 : Int32) : Prop :=
  (G270 p v1 (cn 1) v2) ∧ (
  let x1 : Int32 := (F270 p v1 (cn 1) v2)
  (G270 p v1 (cn 0) v2) ∧ (
  let x2 : Int32 := (F270 p v1 (cn 0) v2)
  kg17 p v1 v2 x1 x2))
noncomputable def g12_tradesAll (p : PM) (v1 : Int32) (v2 : Int32) : Prop := bg12_tradesAll v12_firstIn g12_firstIn (g12_tradesAll_17 FU) p v1 v2
noncomputable def bv12_endsAuction_92 (F227 : PM → Int32 → PM) (F267 : PM → PM) (kv92 : PM → Int32 → Int32 → PM) (p : PM) (v1 : Int32) (v2 : Int32) : PM :=
  if v2 < (cn 44) then (
    if (p.1 15 3 (v2).toNatClampNeg) = 0 then (
      kv92 p v1 (v2 + (cn 1)))
    else (
      if (p.1 13 16 (v2).toNatClampNeg) = v1 then (
        if (p.1 13 24 (v2).toNatClampNeg) = (cn 1) then (
          if (p.1 15 5 (v2).toNatClampNeg) = 0 then (
            let p4 : PM := pI p 15 3 (v2).toNatClampNeg (cn 1)
            if (p4.1 13 19 (v2).toNatClampNeg) = (cn 1) then (
              let p5 : PM := F227 p4 v2
              kv92 p5 v1 (v2 + (cn 1)))
            else (
              kv92 p4 v1 (v2 + (cn 1))))
          else (
            let p2 : PM := pI p 15 3 (v2).toNatClampNeg (cn 0)
            if (p2.1 13 19 (v2).toNatClampNeg) = (cn 1) then (
              let p3 : PM := F227 p2 v2
              kv92 p3 v1 (v2 + (cn 1)))
            else (
              kv92 p2 v1 (v2 + (cn 1)))))
        else (
          kv92 p v1 (v2 + (cn 1))))
      else (
        kv92 p v1 (v2 + (cn 1)))))
  else (
    let p1 : PM := F267 p
    p1)
noncomputable def v12_endsAuction_92 (n : Nat) : PM → Int32 → Int32 → PM := Nat.rec (motive := fun _ => PM → Int32 → Int32 → PM) (fun p _ _ => p) (fun _ ih => bv12_endsAuction_92 v12_showsAnew v12_works ih) n
theorem ev12_endsAuction_92 (n : Nat) (p : PM) (v1 : Int32) (v2 : Int32) : v12_endsAuction_92 (n + 1) p v1 v2 = bv12_endsAuction_92 v12_showsAnew v12_works (v12_endsAuction_92 n) p v1 v2 := rfl
noncomputable def bg12_endsAuction_92 (F227 : PM → Int32 → PM) (G227 : PM → Int32 → Prop) (F267 : PM → PM) (G267 : PM → Prop) (kg92 : PM → Int32 → Int32 → Prop) (p : PM) (v1 : Int32) (v2 : Int32) : Prop :=
  if v2 < (cn 44) then (
    (inb v2 44) ∧ (
    if (p.1 15 3 (v2).toNatClampNeg) = 0 then (
      kg92 p v1 (v2 + (cn 1)))
    else (
      (inb v2 44) ∧ (
      if (p.1 13 16 (v2).toNatClampNeg) = v1 then (
        (inb v2 44) ∧ (
        if (p.1 13 24 (v2).toNatClampNeg) = (cn 1) then (
          (inb v2 44) ∧ (
          if (p.1 15 5 (v2).toNatClampNeg) = 0 then (
            (inb v2 44) ∧ (
            let p4 : PM := pI p 15 3 (v2).toNatClampNeg (cn 1)
            (inb v2 44) ∧ (
            if (p4.1 13 19 (v2).toNatClampNeg) = (cn 1) then (
              (G227 p4 v2) ∧ (
              let p5 : PM := F227 p4 v2
              kg92 p5 v1 (v2 + (cn 1))))
            else (
              kg92 p4 v1 (v2 + (cn 1))))))
          else (
            (inb v2 44) ∧ (
            let p2 : PM := pI p 15 3 (v2).toNatClampNeg (cn 0)
            (inb v2 44) ∧ (
            if (p2.1 13 19 (v2).toNatClampNeg) = (cn 1) then (
              (G227 p2 v2) ∧ (
              let p3 : PM := F227 p2 v2
              kg92 p3 v1 (v2 + (cn 1))))
            else (
              kg92 p2 v1 (v2 + (cn 1))))))))
        else (
          kg92 p v1 (v2 + (cn 1)))))
      else (
        kg92 p v1 (v2 + (cn 1)))))))
  else (
    (G267 p) ∧ (
    let p1 : PM := F267 p
    True))
noncomputable def g12_endsAuction_92 (n : Nat) : PM → Int32 → Int32 → Prop := Nat.rec (motive := fun _ => PM → Int32 → Int32 → Prop) (fun _ _ _ => False) (fun _ ih => bg12_endsAuction_92 v12_showsAnew g12_showsAnew v12_works g12_works ih) n
theorem eg12_endsAuction_92 (n : Nat) (p : PM) (v1 : Int32) (v2 : Int32) : g12_endsAuction_92 (n + 1) p v1 v2 = bg12_endsAuction_92 v12_showsAnew g12_showsAnew v12_works g12_works (g12_endsAuction_92 n) p v1 v2 := rfl
noncomputable def bv12_endsAuction (F220 : PM → Int32 → Int32 → Int32) (F269 : PM → Int32 → PM) (F271 : PM → Int32 → Int32 → PM) (kv92 : PM → Int32 → Int32 → PM) (p : PM) (v1 : Int32) : PM :=
  let p1 : PM := F269 p v1
  if (p1.1 12 1 65) = (cn (-100000)) then (
    if (p1.1 12 1 65) = (cn (-100000)) then (
      let p2 : PM := pI p1 13 12 (v1).toNatClampNeg (cn (-100000))
      kv92 p2 v1 (cn 0))
    else (
      let p3 : PM := F271 p1 v1 (p1.1 12 1 65)
      let p4 : PM := pI p3 13 11 (v1).toNatClampNeg (p1.1 12 1 65)
      let p5 : PM := pI p4 13 12 (v1).toNatClampNeg (cn (-100000))
      kv92 p5 v1 (cn 0)))
  else (
    if (F220 p1 v1 (p1.1 12 1 65)) = 0 then (
      if (p1.1 15 2 (v1).toNatClampNeg) = 0 then (
        let p14 : PM := pI p1 15 2 (v1).toNatClampNeg (cn 1)
        let p15 : PM := pI p14 13 12 (v1).toNatClampNeg ((p14.1 12 1 17) + (cn 5))
        p15)
      else (
        if (p1.1 12 1 65) = (cn (-100000)) then (
          let p10 : PM := pI p1 13 12 (v1).toNatClampNeg (cn (-100000))
          kv92 p10 v1 (cn 0))
        else (
          let p11 : PM := F271 p1 v1 (p1.1 12 1 65)
          let p12 : PM := pI p11 13 11 (v1).toNatClampNeg (p1.1 12 1 65)
          let p13 : PM := pI p12 13 12 (v1).toNatClampNeg (cn (-100000))
          kv92 p13 v1 (cn 0))))
    else (
      if (p1.1 12 1 65) = (cn (-100000)) then (
        let p6 : PM := pI p1 13 12 (v1).toNatClampNeg (cn (-100000))
        kv92 p6 v1 (cn 0))
      else (
        let p7 : PM := F271 p1 v1 (p1.1 12 1 65)
        let p8 : PM := pI p7 13 11 (v1).toNatClampNeg (p1.1 12 1 65)
        let p9 : PM := pI p8 13 12 (v1).toNatClampNeg (cn (-100000))
        kv92 p9 v1 (cn 0))))
noncomputable def v12_endsAuction (p : PM) (v1 : Int32) : PM := bv12_endsAuction v12_isNear v12_finds v12_tradesAll (v12_endsAuction_92 FU) p v1
noncomputable def bg12_endsAuction (F220 : PM → Int32 → Int32 → Int32) (G220 : PM → Int32 → Int32 → Prop) (F269 : PM → Int32 → PM) (G269 : PM → Int32 → Prop) (F271 : PM → Int32 → Int32 → PM) (G271 : PM → Int32 → Int32 → Prop) (kg92 : PM → Int32 → Int32 → Prop) (p : PM) (v1 : Int32) : Prop :=
  (G269 p v1) ∧ (
  let p1 : PM := F269 p v1
  if (p1.1 12 1 65) = (cn (-100000)) then (
    if (p1.1 12 1 65) = (cn (-100000)) then (
      (inb v1 6) ∧ (
      let p2 : PM := pI p1 13 12 (v1).toNatClampNeg (cn (-100000))
      kg92 p2 v1 (cn 0)))
    else (
      (G271 p1 v1 (p1.1 12 1 65)) ∧ (
      let p3 : PM := F271 p1 v1 (p1.1 12 1 65)
      (inb v1 6) ∧ (
      let p4 : PM := pI p3 13 11 (v1).toNatClampNeg (p1.1 12 1 65)
      (inb v1 6) ∧ (
      let p5 : PM := pI p4 13 12 (v1).toNatClampNeg (cn (-100000))
      kg92 p5 v1 (cn 0))))))
  else (
    (G220 p1 v1 (p1.1 12 1 65)) ∧ (
    if (F220 p1 v1 (p1.1 12 1 65)) = 0 then (
      (inb v1 6) ∧ (
      if (p1.1 15 2 (v1).toNatClampNeg) = 0 then (
        (inb v1 6) ∧ (
        let p14 : PM := pI p1 15 2 (v1).toNatClampNeg (cn 1)
        (inb v1 6) ∧ (
        let p15 : PM := pI p14 13 12 (v1).toNatClampNeg ((p14.1 12 1 17) + (cn 5))
        True)))
      else (
        if (p1.1 12 1 65) = (cn (-100000)) then (
          (inb v1 6) ∧ (
          let p10 : PM := pI p1 13 12 (v1).toNatClampNeg (cn (-100000))
          kg92 p10 v1 (cn 0)))
        else (
          (G271 p1 v1 (p1.1 12 1 65)) ∧ (
          let p11 : PM := F271 p1 v1 (p1.1 12 1 65)
          (inb v1 6) ∧ (
          let p12 : PM := pI p11 13 11 (v1).toNatClampNeg (p1.1 12 1 65)
          (inb v1 6) ∧ (
          let p13 : PM := pI p12 13 12 (v1).toNatClampNeg (cn (-100000))
          kg92 p13 v1 (cn 0))))))))
    else (
      if (p1.1 12 1 65) = (cn (-100000)) then (
        (inb v1 6) ∧ (
        let p6 : PM := pI p1 13 12 (v1).toNatClampNeg (cn (-100000))
        kg92 p6 v1 (cn 0)))
      else (
        (G271 p1 v1 (p1.1 12 1 65)) ∧ (
        let p7 : PM := F271 p1 v1 (p1.1 12 1 65)
        (inb v1 6) ∧ (
        let p8 : PM := pI p7 13 11 (v1).toNatClampNeg (p1.1 12 1 65)
        (inb v1 6) ∧ (
        let p9 : PM := pI p8 13 12 (v1).toNatClampNeg (cn (-100000))
        kg92 p9 v1 (cn 0)))))))))
noncomputable def g12_endsAuction (p : PM) (v1 : Int32) : Prop := bg12_endsAuction v12_isNear g12_isNear v12_finds g12_finds v12_tradesAll g12_tradesAll (g12_endsAuction_92 FU) p v1
noncomputable def bv12_hasQuote_6 (p : PM) (kv6 : Int32 → Int32 → Int32 → Int32 → Int32 → Int32) (v1 : Int32) (v2 : Int32) (v3 : Int32) (v4 : Int32) (v5 : Int32) : Int32 :=
  if v5 < (cn 44) then (
    if v4 = 0 then (
      if (p.1 15 3 (v5).toNatClampNeg) = 0 then (
        kv6 v1 v2 v3 (cn 0) (v5 + (cn 1)))
      else (
        if (p.1 13 19 (v5).toNatClampNeg) = (cn 4) then (
          if (p.1 13 15 (v5).toNatClampNeg) = v1 then (
            if (p.1 13 16 (v5).toNatClampNeg) = v2 then (
              if (p.1 15 4 (v5).toNatClampNeg) = v3 then (
                kv6 v1 v2 v3 (cn 1) (v5 + (cn 1)))
              else (
                kv6 v1 v2 v3 (cn 0) (v5 + (cn 1))))
            else (
              kv6 v1 v2 v3 (cn 0) (v5 + (cn 1))))
          else (
            kv6 v1 v2 v3 (cn 0) (v5 + (cn 1))))
        else (
          kv6 v1 v2 v3 (cn 0) (v5 + (cn 1)))))
    else (
      kv6 v1 v2 v3 (cn 1) (v5 + (cn 1))))
  else (
    v4)
noncomputable def v12_hasQuote_6 (p : PM) (n : Nat) : Int32 → Int32 → Int32 → Int32 → Int32 → Int32 := Nat.rec (motive := fun _ => Int32 → Int32 → Int32 → Int32 → Int32 → Int32) (fun _ _ _ _ _ => 0) (fun _ ih => bv12_hasQuote_6 p ih) n
theorem ev12_hasQuote_6 (p : PM) (n : Nat) (v1 : Int32) (v2 : Int32) (v3 : Int32) (v4 : Int32) (v5 : Int32) : v12_hasQuote_6 p (n + 1) v1 v2 v3 v4 v5 = bv12_hasQuote_6 p (v12_hasQuote_6 p n) v1 v2 v3 v4 v5 := rfl
noncomputable def bg12_hasQuote_6 (p : PM) (kg6 : Int32 → Int32 → Int32 → Int32 → Int32 → Prop) (v1 : Int32) (v2 : Int32) (v3 : Int32) (v4 : Int32) (v5 : Int32) : Prop :=
  if v5 < (cn 44) then (
    if v4 = 0 then (
      (inb v5 44) ∧ (
      if (p.1 15 3 (v5).toNatClampNeg) = 0 then (
        kg6 v1 v2 v3 (cn 0) (v5 + (cn 1)))
      else (
        (inb v5 44) ∧ (
        if (p.1 13 19 (v5).toNatClampNeg) = (cn 4) then (
          (inb v5 44) ∧ (
          if (p.1 13 15 (v5).toNatClampNeg) = v1 then (
            (inb v5 44) ∧ (
            if (p.1 13 16 (v5).toNatClampNeg) = v2 then (
              (inb v5 44) ∧ (
              if (p.1 15 4 (v5).toNatClampNeg) = v3 then (
                kg6 v1 v2 v3 (cn 1) (v5 + (cn 1)))
              else (
                kg6 v1 v2 v3 (cn 0) (v5 + (cn 1)))))
            else (
              kg6 v1 v2 v3 (cn 0) (v5 + (cn 1)))))
          else (
            kg6 v1 v2 v3 (cn 0) (v5 + (cn 1)))))
        else (
          kg6 v1 v2 v3 (cn 0) (v5 + (cn 1)))))))
    else (
      kg6 v1 v2 v3 (cn 1) (v5 + (cn 1))))
  else (
    (b01 v4) ∧ (
    True))
noncomputable def g12_hasQuote_6 (p : PM) (n : Nat) : Int32 → Int32 → Int32 → Int32 → Int32 → Prop := Nat.rec (motive := fun _ => Int32 → Int32 → Int32 → Int32 → Int32 → Prop) (fun _ _ _ _ _ => False) (fun _ ih => bg12_hasQuote_6 p ih) n
theorem eg12_hasQuote_6 (p : PM) (n : Nat) (v1 : Int32) (v2 : Int32) (v3 : Int32) (v4 : Int32) (v5 : Int32) : g12_hasQuote_6 p (n + 1) v1 v2 v3 v4 v5 = bg12_hasQuote_6 p (g12_hasQuote_6 p n) v1 v2 v3 v4 v5 := rfl
noncomputable def bv12_hasQuote (p : PM) (kv6 : Int32 → Int32 → Int32 → Int32 → Int32 → Int32) (v1 : Int32) (v2 : Int32) (v3 : Int32) : Int32 :=
  kv6 v1 v2 v3 (cn 0) (cn 0)
noncomputable def v12_hasQuote (p : PM) (v1 : Int32) (v2 : Int32) (v3 : Int32) : Int32 := bv12_hasQuote p (v12_hasQuote_6 p FU) v1 v2 v3
noncomputable def bg12_hasQuote (p : PM) (kg6 : Int32 → Int32 → Int32 → Int32 → Int32 → Prop) (v1 : Int32) (v2 : Int32) (v3 : Int32) : Prop :=
  kg6 v1 v2 v3 (cn 0) (cn 0)
noncomputable def g12_hasQuote (p : PM) (v1 : Int32) (v2 : Int32) (v3 : Int32) : Prop := bg12_hasQuote p (g12_hasQuote_6 p FU) v1 v2 v3
noncomputable def bv12_passes_28 (F218 : PM → Int32 → Int32) (F273 : PM → Int32 → Int32 → Int32 → Int32) (kv19 : PM → Int32 → Int32 → Int32 → PM) (kv28 : PM → Int32 → Int32 → Int32 → Int32 → PM) (p : PM) (v1 : Int32) (v2 : Int32) (v3 : Int32) (v4 : Int32) : PM :=
  if v4 < (cn 6) then (
    if (F218 p v4) = 0 then (
      let p1 : PM := pI p 13 5 (v3).toNatClampNeg ((p.1 13 5 (v3).toNatClampNeg) + (cn 0))
      kv28 p1 v1 v2 v3 (v4 + (cn 1)))
    else (
      if (F273 p v3 v4 (cn 1)) = 0 then (
        let p2 : PM := pI p 13 5 (v3).toNatClampNeg ((p.1 13 5 (v3).toNatClampNeg) + (cn 0))
        kv28 p2 v1 v2 v3 (v4 + (cn 1)))
      else (
        if (F273 p v3 v4 (cn 0)) = 0 then (
          let p3 : PM := pI p 13 5 (v3).toNatClampNeg ((p.1 13 5 (v3).toNatClampNeg) + (cn 0))
          kv28 p3 v1 v2 v3 (v4 + (cn 1)))
        else (
          let p4 : PM := pI p 13 5 (v3).toNatClampNeg ((p.1 13 5 (v3).toNatClampNeg) + (cn 1))
          kv28 p4 v1 v2 v3 (v4 + (cn 1))))))
  else (
    kv19 p v1 v2 (v3 + (cn 1)))
noncomputable def v12_passes_28 (kv2 : PM → Int32 → Int32 → PM) (kv19 : PM → Int32 → Int32 → Int32 → PM) (n : Nat) : PM → Int32 → Int32 → Int32 → Int32 → PM := Nat.rec (motive := fun _ => PM → Int32 → Int32 → Int32 → Int32 → PM) (fun p _ _ _ _ => p) (fun _ ih => bv12_passes_28 v12_isOpen v12_hasQuote kv19 ih) n
theorem ev12_passes_28 (kv2 : PM → Int32 → Int32 → PM) (kv19 : PM → Int32 → Int32 → Int32 → PM) (n : Nat) (p : PM) (v1 : Int32) (v2 : Int32) (v3 : Int32) (v4 : Int32) : v12_passes_28 kv2 kv19 (n + 1) p v1 v2 v3 v4 = bv12_passes_28 v12_isOpen v12_hasQuote kv19 (v12_passes_28 kv2 kv19 n) p v1 v2 v3 v4 := rfl
noncomputable def bg12_passes_28 (F218 : PM → Int32 → Int32) (G218 : PM → Int32 → Prop) (F273 : PM → Int32 → Int32 → Int32 → Int32) (G273 : PM → Int32 → Int32 → Int32 → Prop) (kg19 : PM → Int32 → Int32 → Int32 → Prop) (kg28 : PM → Int32 → Int32 → Int32 → Int32 → Prop) (p : PM) (v1 : Int32) (v2 : Int32) (v3 : Int32) (v4 : Int32) : Prop :=
  if v4 < (cn 6) then (
    (inb v3 8) ∧ (
    (G218 p v4) ∧ (
    if (F218 p v4) = 0 then (
      (inb v3 8) ∧ (
      let p1 : PM := pI p 13 5 (v3).toNatClampNeg ((p.1 13 5 (v3).toNatClampNeg) + (cn 0))
      kg28 p1 v1 v2 v3 (v4 + (cn 1))))
    else (
      (G273 p v3 v4 (cn 1)) ∧ (
      if (F273 p v3 v4 (cn 1)) = 0 then (
        (inb v3 8) ∧ (
        let p2 : PM := pI p 13 5 (v3).toNatClampNeg ((p.1 13 5 (v3).toNatClampNeg) + (cn 0))
        kg28 p2 v1 v2 v3 (v4 + (cn 1))))
      else (
        (G273 p v3 v4 (cn 0)) ∧ (
        if (F273 p v3 v4 (cn 0)) = 0 then (
          (inb v3 8) ∧ (
          let p3 : PM := pI p 13 5 (v3).toNatClampNeg ((p.1 13 5 (v3).toNatClampNeg) + (cn 0))
          kg28 p3 v1 v2 v3 (v4 + (cn 1))))
        else (
          (inb v3 8) ∧ (
          let p4 : PM := pI p 13 5 (v3).toNatClampNeg ((p.1 13 5 (v3).toNatClampNeg) + (cn 1))
          kg28 p4 v1 v2 v3 (v4 + (cn 1)))))))))))
  else (
    kg19 p v1 v2 (v3 + (cn 1)))
noncomputable def g12_passes_28 (kg2 : PM → Int32 → Int32 → Prop) (kg19 : PM → Int32 → Int32 → Int32 → Prop) (n : Nat) : PM → Int32 → Int32 → Int32 → Int32 → Prop := Nat.rec (motive := fun _ => PM → Int32 → Int32 → Int32 → Int32 → Prop) (fun _ _ _ _ _ => False) (fun _ ih => bg12_passes_28 v12_isOpen g12_isOpen v12_hasQuote g12_hasQuote kg19 ih) n
theorem eg12_passes_28 (kg2 : PM → Int32 → Int32 → Prop) (kg19 : PM → Int32 → Int32 → Int32 → Prop) (n : Nat) (p : PM) (v1 : Int32) (v2 : Int32) (v3 : Int32) (v4 : Int32) : g12_passes_28 kg2 kg19 (n + 1) p v1 v2 v3 v4 = bg12_passes_28 v12_isOpen g12_isOpen v12_hasQuote g12_hasQuote kg19 (g12_passes_28 kg2 kg19 n) p v1 v2 v3 v4 := rfl
noncomputable def bv12_passes_94 (F272 : PM → Int32 → PM) (kv2 : PM → Int32 → Int32 → PM) (kv94 : PM → Int32 → Int32 → Int32 → PM) (p : PM) (v1 : Int32) (v2 : Int32) (v3 : Int32) : PM :=
  if v3 < (cn 6) then (
    if (p.1 13 12 (v3).toNatClampNeg) = (p.1 12 1 17) then (
      let p1 : PM := F272 p v3
      kv94 p1 v1 v2 (v3 + (cn 1)))
    else (
      kv94 p v1 v2 (v3 + (cn 1))))
  else (
    kv2 p v1 (v2 + (cn 1)))
noncomputable def v12_passes_94 (kv2 : PM → Int32 → Int32 → PM) (n : Nat) : PM → Int32 → Int32 → Int32 → PM := Nat.rec (motive := fun _ => PM → Int32 → Int32 → Int32 → PM) (fun p _ _ _ => p) (fun _ ih => bv12_passes_94 v12_endsAuction kv2 ih) n
theorem ev12_passes_94 (kv2 : PM → Int32 → Int32 → PM) (n : Nat) (p : PM) (v1 : Int32) (v2 : Int32) (v3 : Int32) : v12_passes_94 kv2 (n + 1) p v1 v2 v3 = bv12_passes_94 v12_endsAuction kv2 (v12_passes_94 kv2 n) p v1 v2 v3 := rfl
noncomputable def bg12_passes_94 (F272 : PM → Int32 → PM) (G272 : PM → Int32 → Prop) (kg2 : PM → Int32 → Int32 → Prop) (kg94 : PM → Int32 → Int32 → Int32 → Prop) (p : PM) (v1 : Int32) (v2 : Int32) (v3 : Int32) : Prop :=
  if v3 < (cn 6) then (
    (inb v3 6) ∧ (
    if (p.1 13 12 (v3).toNatClampNeg) = (p.1 12 1 17) then (
      (G272 p v3) ∧ (
      let p1 : PM := F272 p v3
      kg94 p1 v1 v2 (v3 + (cn 1))))
    else (
      kg94 p v1 v2 (v3 + (cn 1)))))
  else (
    kg2 p v1 (v2 + (cn 1)))
noncomputable def g12_passes_94 (kg2 : PM → Int32 → Int32 → Prop) (n : Nat) : PM → Int32 → Int32 → Int32 → Prop := Nat.rec (motive := fun _ => PM → Int32 → Int32 → Int32 → Prop) (fun _ _ _ _ => False) (fun _ ih => bg12_passes_94 v12_endsAuction g12_endsAuction kg2 ih) n
theorem eg12_passes_94 (kg2 : PM → Int32 → Int32 → Prop) (n : Nat) (p : PM) (v1 : Int32) (v2 : Int32) (v3 : Int32) : g12_passes_94 kg2 (n + 1) p v1 v2 v3 = bg12_passes_94 v12_endsAuction g12_endsAuction kg2 (g12_passes_94 kg2 n) p v1 v2 v3 := rfl
noncomputable def bv12_passes_19 (kv28 : PM → Int32 → Int32 → Int32 → Int32 → PM) (kv94 : PM → Int32 → Int32 → Int32 → PM) (p : PM) (v1 : Int32) (v2 : Int32) (v3 : Int32) : PM :=
  if v3 < (cn 8) then (
    kv28 p v1 v2 v3 (cn 0))
  else (
    kv94 p v1 v2 (cn 0))
noncomputable def v12_passes_19 (kv2 : PM → Int32 → Int32 → PM) (n : Nat) : PM → Int32 → Int32 → Int32 → PM := Nat.rec (motive := fun _ => PM → Int32 → Int32 → Int32 → PM) (fun p _ _ _ => p) (fun _ ih => bv12_passes_19 (v12_passes_28 kv2 ih FU) (v12_passes_94 kv2 FU)) n
theorem ev12_passes_19 (kv2 : PM → Int32 → Int32 → PM) (n : Nat) (p : PM) (v1 : Int32) (v2 : Int32) (v3 : Int32) : v12_passes_19 kv2 (n + 1) p v1 v2 v3 = bv12_passes_19 (v12_passes_28 kv2 (v12_passes_19 kv2 n) FU) (v12_passes_94 kv2 FU) p v1 v2 v3 := rfl
noncomputable def bg12_passes_19 (kg28 : PM → Int32 → Int32 → Int32 → Int32 → Prop) (kg94 : PM → Int32 → Int32 → Int32 → Prop) (p : PM) (v1 : Int32) (v2 : Int32) (v3 : Int32) : Prop :=
  if v3 < (cn 8) then (
    kg28 p v1 v2 v3 (cn 0))
  else (
    kg94 p v1 v2 (cn 0))
noncomputable def g12_passes_19 (kg2 : PM → Int32 → Int32 → Prop) (n : Nat) : PM → Int32 → Int32 → Int32 → Prop := Nat.rec (motive := fun _ => PM → Int32 → Int32 → Int32 → Prop) (fun _ _ _ _ => False) (fun _ ih => bg12_passes_19 (g12_passes_28 kg2 ih FU) (g12_passes_94 kg2 FU)) n
theorem eg12_passes_19 (kg2 : PM → Int32 → Int32 → Prop) (n : Nat) (p : PM) (v1 : Int32) (v2 : Int32) (v3 : Int32) : g12_passes_19 kg2 (n + 1) p v1 v2 v3 = bg12_passes_19 (g12_passes_28 kg2 (g12_passes_19 kg2 n) FU) (g12_passes_94 kg2 FU) p v1 v2 v3 := rfl
noncomputable def bv12_passes_2 (kv19 : PM → Int32 → Int32 → Int32 → PM) (p : PM) (v1 : Int32) (v2 : Int32) : PM :=
  if v2 < v1 then (
    let p1 : PM := pI p 12 1 17 ((p.1 12 1 17) + (cn 1))
    kv19 p1 v1 v2 (cn 0))
  else (
    p)
noncomputable def v12_passes_2 (n : Nat) : PM → Int32 → Int32 → PM := Nat.rec (motive := fun _ => PM → Int32 → Int32 → PM) (fun p _ _ => p) (fun _ ih => bv12_passes_2 (v12_passes_19 ih FU)) n
theorem ev12_passes_2 (n : Nat) (p : PM) (v1 : Int32) (v2 : Int32) : v12_passes_2 (n + 1) p v1 v2 = bv12_passes_2 (v12_passes_19 (v12_passes_2 n) FU) p v1 v2 := rfl
noncomputable def bg12_passes_2 (kg19 : PM → Int32 → Int32 → Int32 → Prop) (p : PM) (v1 : Int32) (v2 : Int32) : Prop :=
  if v2 < v1 then (
    let p1 : PM := pI p 12 1 17 ((p.1 12 1 17) + (cn 1))
    kg19 p1 v1 v2 (cn 0))
  else (
    True)
noncomputable def g12_passes_2 (n : Nat) : PM → Int32 → Int32 → Prop := Nat.rec (motive := fun _ => PM → Int32 → Int32 → Prop) (fun _ _ _ => False) (fun _ ih => bg12_passes_2 (g12_passes_19 ih FU)) n
theorem eg12_passes_2 (n : Nat) (p : PM) (v1 : Int32) (v2 : Int32) : g12_passes_2 (n + 1) p v1 v2 = bg12_passes_2 (g12_passes_19 (g12_passes_2 n) FU) p v1 v2 := rfl
noncomputable def bv12_passes (kv2 : PM → Int32 → Int32 → PM) (p : PM) (v1 : Int32) : PM :=
  kv2 p v1 (cn 0)
noncomputable def v12_passes (p : PM) (v1 : Int32) : PM := bv12_passes (v12_passes_2 FU) p v1
noncomputable def bg12_passes (kg2 : PM → Int32 → Int32 → Prop) (p : PM) (v1 : Int32) : Prop :=
  kg2 p v1 (cn 0)
noncomputable def g12_passes (p : PM) (v1 : Int32) : Prop := bg12_passes (g12_passes_2 FU) p v1
noncomputable def bv12_net (p : PM) (v1 : Int32) (v2 : Int32) : Int64 :=
  (((p.1 13 1 ((((cn 8) * v1) + v2)).toNatClampNeg)).toInt64 + ((p.1 13 1 (((((cn 8) * v1) + (cn 4)) + v2)).toNatClampNeg)).toInt64)
noncomputable def v12_net (p : PM) (v1 : Int32) (v2 : Int32) : Int64 := bv12_net p v1 v2
noncomputable def bg12_net (p : PM) (v1 : Int32) (v2 : Int32) : Prop :=
  (inb (((cn 8) * v1) + v2) 36) ∧ (
  (inb ((((cn 8) * v1) + (cn 4)) + v2) 36) ∧ (
  True))
noncomputable def g12_net (p : PM) (v1 : Int32) (v2 : Int32) : Prop := bg12_net p v1 v2
noncomputable def bv12_risk_37 (p : PM) (F275 : PM → Int32 → Int32 → Int64) (kv5 : Int32 → Int64 → Int32 → Int64) (kv37 : Int32 → Int64 → Int32 → Int64 → Int32 → Int64) (v1 : Int32) (v2 : Int64) (v4 : Int32) (v5 : Int64) (v7 : Int32) : Int64 :=
  if v7 < (cn 4) then (
    let x1 : Int64 := (v5 - ((F275 p v1 v7) * ((p.1 13 35 ((((cn 4) * v4) + v7)).toNatClampNeg)).toInt64))
    kv37 v1 v2 v4 x1 (v7 + (cn 1)))
  else (
    if 0 < (lg_cmp v5 v2) then (
      kv5 v1 v5 (v4 + (cn 1)))
    else (
      kv5 v1 v2 (v4 + (cn 1))))
noncomputable def v12_risk_37 (p : PM) (kv5 : Int32 → Int64 → Int32 → Int64) (n : Nat) : Int32 → Int64 → Int32 → Int64 → Int32 → Int64 := Nat.rec (motive := fun _ => Int32 → Int64 → Int32 → Int64 → Int32 → Int64) (fun _ _ _ _ _ => 0) (fun _ ih => bv12_risk_37 p v12_net kv5 ih) n
theorem ev12_risk_37 (p : PM) (kv5 : Int32 → Int64 → Int32 → Int64) (n : Nat) (v1 : Int32) (v2 : Int64) (v4 : Int32) (v5 : Int64) (v7 : Int32) : v12_risk_37 p kv5 (n + 1) v1 v2 v4 v5 v7 = bv12_risk_37 p v12_net kv5 (v12_risk_37 p kv5 n) v1 v2 v4 v5 v7 := rfl
noncomputable def bg12_risk_37 (p : PM) (F275 : PM → Int32 → Int32 → Int64) (G275 : PM → Int32 → Int32 → Prop) (kg5 : Int32 → Int64 → Int32 → Prop) (kg37 : Int32 → Int64 → Int32 → Int64 → Int32 → Prop) (v1 : Int32) (v2 : Int64) (v4 : Int32) (v5 : Int64) (v7 : Int32) : Prop :=
  if v7 < (cn 4) then (
    (G275 p v1 v7) ∧ (
    (inb (((cn 4) * v4) + v7) 16) ∧ (
    let x1 : Int64 := (v5 - ((F275 p v1 v7) * ((p.1 13 35 ((((cn 4) * v4) + v7)).toNatClampNeg)).toInt64))
    kg37 v1 v2 v4 x1 (v7 + (cn 1)))))
  else (
    if 0 < (lg_cmp v5 v2) then (
      kg5 v1 v5 (v4 + (cn 1)))
    else (
      kg5 v1 v2 (v4 + (cn 1))))
noncomputable def g12_risk_37 (p : PM) (kg5 : Int32 → Int64 → Int32 → Prop) (n : Nat) : Int32 → Int64 → Int32 → Int64 → Int32 → Prop := Nat.rec (motive := fun _ => Int32 → Int64 → Int32 → Int64 → Int32 → Prop) (fun _ _ _ _ _ => False) (fun _ ih => bg12_risk_37 p v12_net g12_net kg5 ih) n
theorem eg12_risk_37 (p : PM) (kg5 : Int32 → Int64 → Int32 → Prop) (n : Nat) (v1 : Int32) (v2 : Int64) (v4 : Int32) (v5 : Int64) (v7 : Int32) : g12_risk_37 p kg5 (n + 1) v1 v2 v4 v5 v7 = bg12_risk_37 p v12_net g12_net kg5 (g12_risk_37 p kg5 n) v1 v2 v4 v5 v7 := rfl
noncomputable def bv12_risk_98 (p : PM) (F275 : PM → Int32 → Int32 → Int64) (kv98 : Int32 → Int64 → Int32 → Int64) (v1 : Int32) (v2 : Int64) (v4 : Int32) : Int64 :=
  if v4 < (cn 4) then (
    if (lg_cmp (F275 p v1 v4) (cl 0)) < 0 then (
      if 0 < (lg_cmp (-(F275 p v1 v4)) (cl 30)) then (
        let x2 : Int64 := (v2 + ((cl 5) * ((-(F275 p v1 v4)) - (cl 30))))
        kv98 v1 x2 (v4 + (cn 1)))
      else (
        kv98 v1 (v2 + (cl 0)) (v4 + (cn 1))))
    else (
      if 0 < (lg_cmp (F275 p v1 v4) (cl 30)) then (
        let x1 : Int64 := (v2 + ((cl 5) * ((F275 p v1 v4) - (cl 30))))
        kv98 v1 x1 (v4 + (cn 1)))
      else (
        kv98 v1 (v2 + (cl 0)) (v4 + (cn 1)))))
  else (
    v2)
noncomputable def v12_risk_98 (p : PM) (n : Nat) : Int32 → Int64 → Int32 → Int64 := Nat.rec (motive := fun _ => Int32 → Int64 → Int32 → Int64) (fun _ _ _ => 0) (fun _ ih => bv12_risk_98 p v12_net ih) n
theorem ev12_risk_98 (p : PM) (n : Nat) (v1 : Int32) (v2 : Int64) (v4 : Int32) : v12_risk_98 p (n + 1) v1 v2 v4 = bv12_risk_98 p v12_net (v12_risk_98 p n) v1 v2 v4 := rfl
noncomputable def bg12_risk_98 (p : PM) (F275 : PM → Int32 → Int32 → Int64) (G275 : PM → Int32 → Int32 → Prop) (kg98 : Int32 → Int64 → Int32 → Prop) (v1 : Int32) (v2 : Int64) (v4 : Int32) : Prop :=
  if v4 < (cn 4) then (
    (G275 p v1 v4) ∧ (
    if (lg_cmp (F275 p v1 v4) (cl 0)) < 0 then (
      (G275 p v1 v4) ∧ (
      if 0 < (lg_cmp (-(F275 p v1 v4)) (cl 30)) then (
        let x2 : Int64 := (v2 + ((cl 5) * ((-(F275 p v1 v4)) - (cl 30))))
        kg98 v1 x2 (v4 + (cn 1)))
      else (
        kg98 v1 (v2 + (cl 0)) (v4 + (cn 1)))))
    else (
      (G275 p v1 v4) ∧ (
      if 0 < (lg_cmp (F275 p v1 v4) (cl 30)) then (
        let x1 : Int64 := (v2 + ((cl 5) * ((F275 p v1 v4) - (cl 30))))
        kg98 v1 x1 (v4 + (cn 1)))
      else (
        kg98 v1 (v2 + (cl 0)) (v4 + (cn 1)))))))
  else (
    True)
noncomputable def g12_risk_98 (p : PM) (n : Nat) : Int32 → Int64 → Int32 → Prop := Nat.rec (motive := fun _ => Int32 → Int64 → Int32 → Prop) (fun _ _ _ => False) (fun _ ih => bg12_risk_98 p v12_net g12_net ih) n
theorem eg12_risk_98 (p : PM) (n : Nat) (v1 : Int32) (v2 : Int64) (v4 : Int32) : g12_risk_98 p (n + 1) v1 v2 v4 = bg12_risk_98 p v12_net g12_net (g12_risk_98 p n) v1 v2 v4 := rfl
noncomputable def bv12_risk_5 (p : PM) (kv37 : Int32 → Int64 → Int32 → Int64 → Int32 → Int64) (kv98 : Int32 → Int64 → Int32 → Int64) (v1 : Int32) (v2 : Int64) (v4 : Int32) : Int64 :=
  if v4 < (cn 4) then (
    let x1 : Int64 := ((-((p.1 13 37 (v1).toNatClampNeg)).toInt64) * ((p.1 13 35 ((((cn 4) * v4) + (cn 1))).toNatClampNeg)).toInt64)
    kv37 v1 v2 v4 x1 (cn 0))
  else (
    kv98 v1 v2 (cn 0))
noncomputable def v12_risk_5 (p : PM) (n : Nat) : Int32 → Int64 → Int32 → Int64 := Nat.rec (motive := fun _ => Int32 → Int64 → Int32 → Int64) (fun _ _ _ => 0) (fun _ ih => bv12_risk_5 p (v12_risk_37 p ih FU) (v12_risk_98 p FU)) n
theorem ev12_risk_5 (p : PM) (n : Nat) (v1 : Int32) (v2 : Int64) (v4 : Int32) : v12_risk_5 p (n + 1) v1 v2 v4 = bv12_risk_5 p (v12_risk_37 p (v12_risk_5 p n) FU) (v12_risk_98 p FU) v1 v2 v4 := rfl
noncomputable def bg12_risk_5 (p : PM) (kg37 : Int32 → Int64 → Int32 → Int64 → Int32 → Prop) (kg98 : Int32 → Int64 → Int32 → Prop) (v1 : Int32) (v2 : Int64) (v4 : Int32) : Prop :=
  if v4 < (cn 4) then (
    (inb v1 4) ∧ (
    (inb (((cn 4) * v4) + (cn 1)) 16) ∧ (
    let x1 : Int64 := ((-((p.1 13 37 (v1).toNatClampNeg)).toInt64) * ((p.1 13 35 ((((cn 4) * v4) + (cn 1))).toNatClampNeg)).toInt64)
    kg37 v1 v2 v4 x1 (cn 0))))
  else (
    kg98 v1 v2 (cn 0))
noncomputable def g12_risk_5 (p : PM) (n : Nat) : Int32 → Int64 → Int32 → Prop := Nat.rec (motive := fun _ => Int32 → Int64 → Int32 → Prop) (fun _ _ _ => False) (fun _ ih => bg12_risk_5 p (g12_risk_37 p ih FU) (g12_risk_98 p FU)) n
theorem eg12_risk_5 (p : PM) (n : Nat) (v1 : Int32) (v2 : Int64) (v4 : Int32) : g12_risk_5 p (n + 1) v1 v2 v4 = bg12_risk_5 p (g12_risk_37 p (g12_risk_5 p n) FU) (g12_risk_98 p FU) v1 v2 v4 := rfl
noncomputable def bv12_risk (p : PM) (kv5 : Int32 → Int64 → Int32 → Int64) (v1 : Int32) : Int64 :=
  kv5 v1 (cl 0) (cn 0)
noncomputable def v12_risk (p : PM) (v1 : Int32) : Int64 := bv12_risk p (v12_risk_5 p FU) v1
noncomputable def bg12_risk (p : PM) (kg5 : Int32 → Int64 → Int32 → Prop) (v1 : Int32) : Prop :=
  kg5 v1 (cl 0) (cn 0)
noncomputable def g12_risk (p : PM) (v1 : Int32) : Prop := bg12_risk p (g12_risk_5 p FU) v1
noncomputable def bv12_worth_5 (p : PM) (F275 : PM → Int32 → Int32 → Int64) (kv5 : Int32 → Int64 → Int32 → Int64) (v1 : Int32) (v2 : Int64) (v4 : Int32) : Int64 :=
  if v4 < (cn 4) then (
    let x1 : Int64 := (v2 + ((F275 p v1 v4) * ((p.1 13 10 (v4).toNatClampNeg)).toInt64))
    kv5 v1 x1 (v4 + (cn 1)))
  else (
    v2)
noncomputable def v12_worth_5 (p : PM) (n : Nat) : Int32 → Int64 → Int32 → Int64 := Nat.rec (motive := fun _ => Int32 → Int64 → Int32 → Int64) (fun _ _ _ => 0) (fun _ ih => bv12_worth_5 p v12_net ih) n
theorem ev12_worth_5 (p : PM) (n : Nat) (v1 : Int32) (v2 : Int64) (v4 : Int32) : v12_worth_5 p (n + 1) v1 v2 v4 = bv12_worth_5 p v12_net (v12_worth_5 p n) v1 v2 v4 := rfl
noncomputable def bg12_worth_5 (p : PM) (F275 : PM → Int32 → Int32 → Int64) (G275 : PM → Int32 → Int32 → Prop) (kg5 : Int32 → Int64 → Int32 → Prop) (v1 : Int32) (v2 : Int64) (v4 : Int32) : Prop :=
  if v4 < (cn 4) then (
    (G275 p v1 v4) ∧ (
    (inb v4 6) ∧ (
    let x1 : Int64 := (v2 + ((F275 p v1 v4) * ((p.1 13 10 (v4).toNatClampNeg)).toInt64))
    kg5 v1 x1 (v4 + (cn 1)))))
  else (
    True)
noncomputable def g12_worth_5 (p : PM) (n : Nat) : Int32 → Int64 → Int32 → Prop := Nat.rec (motive := fun _ => Int32 → Int64 → Int32 → Prop) (fun _ _ _ => False) (fun _ ih => bg12_worth_5 p v12_net g12_net ih) n
theorem eg12_worth_5 (p : PM) (n : Nat) (v1 : Int32) (v2 : Int64) (v4 : Int32) : g12_worth_5 p (n + 1) v1 v2 v4 = bg12_worth_5 p v12_net g12_net (g12_worth_5 p n) v1 v2 v4 := rfl
noncomputable def bv12_worth (p : PM) (kv5 : Int32 → Int64 → Int32 → Int64) (v1 : Int32) : Int64 :=
  kv5 v1 (cl 0) (cn 0)
noncomputable def v12_worth (p : PM) (v1 : Int32) : Int64 := bv12_worth p (v12_worth_5 p FU) v1
noncomputable def bg12_worth (p : PM) (kg5 : Int32 → Int64 → Int32 → Prop) (v1 : Int32) : Prop :=
  kg5 v1 (cl 0) (cn 0)
noncomputable def g12_worth (p : PM) (v1 : Int32) : Prop := bg12_worth p (g12_worth_5 p FU) v1
noncomputable def bv12_value (p : PM) (F277 : PM → Int32 → Int64) (v1 : Int32) : Int64 :=
  (((p.2.1 14 1 (((cn 2) * v1)).toNatClampNeg) + (p.2.1 14 1 ((((cn 2) * v1) + (cn 1))).toNatClampNeg)) + (F277 p v1))
noncomputable def v12_value (p : PM) (v1 : Int32) : Int64 := bv12_value p v12_worth v1
noncomputable def bg12_value (p : PM) (F277 : PM → Int32 → Int64) (G277 : PM → Int32 → Prop) (v1 : Int32) : Prop :=
  (inb ((cn 2) * v1) 9) ∧ (
  (inb (((cn 2) * v1) + (cn 1)) 9) ∧ (
  (G277 p v1) ∧ (
  True)))
noncomputable def g12_value (p : PM) (v1 : Int32) : Prop := bg12_value p v12_worth g12_worth v1
noncomputable def bv12_call (F217 : PM → Int64 → Int64 → Int64) (F276 : PM → Int32 → Int64) (F278 : PM → Int32 → Int64) (p : PM) (v1 : Int32) (v2 : Int64) (v4 : Int64) : Int64 × PM :=
  let x1 : Int32 := (p.1 13 37 (v1).toNatClampNeg)
  let p2 : PM := pI p 13 37 (v1).toNatClampNeg (v4).toInt32
  let x3 : Int64 := ((((F276 p2 v1) - (F278 p2 v1)) - v2) - (F217 p2 ((v4 * ((p2.1 13 10 1)).toInt64) * (((cn 100) - (p2.1 12 1 50))).toInt64) (cl 100)))
  let p4 : PM := pI p2 13 37 (v1).toNatClampNeg x1
  if 0 < (lg_cmp x3 (cl 0)) then (
    (x3, p4))
  else (
    ((cl 0), p4))
noncomputable def v12_call (p : PM) (v1 : Int32) (v2 : Int64) (v4 : Int64) : Int64 × PM := bv12_call v12_floor v12_risk v12_value p v1 v2 v4
noncomputable def bg12_call (F217 : PM → Int64 → Int64 → Int64) (G217 : PM → Int64 → Int64 → Prop) (F276 : PM → Int32 → Int64) (G276 : PM → Int32 → Prop) (F278 : PM → Int32 → Int64) (G278 : PM → Int32 → Prop) (p : PM) (v1 : Int32) (v2 : Int64) (v4 : Int64) : Prop :=
  (inb v1 4) ∧ (
  let x1 : Int32 := (p.1 13 37 (v1).toNatClampNeg)
  (inb v1 4) ∧ (
  let p2 : PM := pI p 13 37 (v1).toNatClampNeg (v4).toInt32
  (G276 p2 v1) ∧ (
  (G278 p2 v1) ∧ (
  (G217 p2 ((v4 * ((p2.1 13 10 1)).toInt64) * (((cn 100) - (p2.1 12 1 50))).toInt64) (cl 100)) ∧ (
  let x3 : Int64 := ((((F276 p2 v1) - (F278 p2 v1)) - v2) - (F217 p2 ((v4 * ((p2.1 13 10 1)).toInt64) * (((cn 100) - (p2.1 12 1 50))).toInt64) (cl 100)))
  (inb v1 4) ∧ (
  let p4 : PM := pI p2 13 37 (v1).toNatClampNeg x1
  if 0 < (lg_cmp x3 (cl 0)) then (
    True)
  else (
    True)))))))
noncomputable def g12_call (p : PM) (v1 : Int32) (v2 : Int64) (v4 : Int64) : Prop := bg12_call v12_floor g12_floor v12_risk g12_risk v12_value g12_value p v1 v2 v4
noncomputable def bv12_isAccount (p : PM) (F215 : PM → Int32 → Int32 → Int32 → Int32) (v0 : Int32) : Int32 :=
  (F215 p v0 (cn 0) (cn 7))
noncomputable def v12_isAccount (p : PM) (v0 : Int32) : Int32 := bv12_isAccount p v12_in v0
noncomputable def bg12_isAccount (p : PM) (F215 : PM → Int32 → Int32 → Int32 → Int32) (G215 : PM → Int32 → Int32 → Int32 → Prop) (v0 : Int32) : Prop :=
  (G215 p v0 (cn 0) (cn 7)) ∧ (
  (b01 (F215 p v0 (cn 0) (cn 7))) ∧ (
  True))
noncomputable def g12_isAccount (p : PM) (v0 : Int32) : Prop := bg12_isAccount p v12_in g12_in v0
noncomputable def bv12_isQuantity (p : PM) (F215 : PM → Int32 → Int32 → Int32 → Int32) (v1 : Int32) : Int32 :=
  if (F215 p v1 (cn (-50)) (cn 50)) = 0 then (
    (cn 0))
  else (
    if v1 = 0 then (
      (cn 0))
    else (
      (cn 1)))
noncomputable def v12_isQuantity (p : PM) (v1 : Int32) : Int32 := bv12_isQuantity p v12_in v1
noncomputable def bg12_isQuantity (p : PM) (F215 : PM → Int32 → Int32 → Int32 → Int32) (G215 : PM → Int32 → Int32 → Int32 → Prop) (v1 : Int32) : Prop :=
  (G215 p v1 (cn (-50)) (cn 50)) ∧ (
  if (F215 p v1 (cn (-50)) (cn 50)) = 0 then (
    True)
  else (
    if v1 = 0 then (
      True)
    else (
      True)))
noncomputable def g12_isQuantity (p : PM) (v1 : Int32) : Prop := bg12_isQuantity p v12_in g12_in v1
noncomputable def bv12_isShut (p : PM) (F222 : PM → Int32) (F231 : PM → Int32 → Int32 → Int32 → Int32) (v1 : Int32) (v2 : Int32) (v3 : Int32) : Int32 :=
  if (p.1 15 9 ((v1 / (cn 2))).toNatClampNeg) = 0 then (
    if (F222 p) < (cn 40) then (
      if (F231 p v1 v2 v3) = 0 then (
        (cn 0))
      else (
        (cn 1)))
    else (
      (cn 1)))
  else (
    (cn 1))
noncomputable def v12_isShut (p : PM) (v1 : Int32) (v2 : Int32) (v3 : Int32) : Int32 := bv12_isShut p v12_live v12_isRefused v1 v2 v3
noncomputable def bg12_isShut (p : PM) (F222 : PM → Int32) (G222 : PM → Prop) (F231 : PM → Int32 → Int32 → Int32 → Int32) (G231 : PM → Int32 → Int32 → Int32 → Prop) (v1 : Int32) (v2 : Int32) (v3 : Int32) : Prop :=
  (inb (v1 / (cn 2)) 4) ∧ (
  if (p.1 15 9 ((v1 / (cn 2))).toNatClampNeg) = 0 then (
    (G222 p) ∧ (
    if (F222 p) < (cn 40) then (
      (G231 p v1 v2 v3) ∧ (
      if (F231 p v1 v2 v3) = 0 then (
        True)
      else (
        True)))
    else (
      True)))
  else (
    True))
noncomputable def g12_isShut (p : PM) (v1 : Int32) (v2 : Int32) (v3 : Int32) : Prop := bg12_isShut p v12_live g12_live v12_isRefused g12_isRefused v1 v2 v3
noncomputable def bv12_isEnough_6 (p : PM) (F220 : PM → Int32 → Int32 → Int32) (F238 : PM → Int32 → Int32 → Int32 → Int32) (F239 : PM → Int32 → Int32 → Int32 → Int32) (kv6 : Int32 → Int32 → Int32 → Int32 → Int32 → Int32 → Int32 → Int32) (v1 : Int32) (v2 : Int32) (v3 : Int32) (v4 : Int32) (v5 : Int32) (v6 : Int32) (v7 : Int32) : Int32 :=
  if v7 < (cn 44) then (
    if v4 = 0 then (
      if (F238 p v7 v2 (cn 1)) = 0 then (
        kv6 v1 v2 v3 v4 v5 (v6 + (cn 0)) (v7 + (cn 1)))
      else (
        if (p.1 15 5 (v7).toNatClampNeg) = 0 then (
          if ((p.1 13 15 (v7).toNatClampNeg) / (cn 2)) = (v1 / (cn 2)) then (
            kv6 v1 v2 v3 v4 v5 (v6 + (cn 0)) (v7 + (cn 1)))
          else (
            if (F239 p (p.1 13 25 (v7).toNatClampNeg) v3 v4) = 0 then (
              if (F220 p v2 (p.1 13 25 (v7).toNatClampNeg)) = 0 then (
                kv6 v1 v2 v3 v4 v5 (v6 + (cn 0)) (v7 + (cn 1)))
              else (
                let x2 : Int32 := (v6 + (p.1 13 17 (v7).toNatClampNeg))
                kv6 v1 v2 v3 v4 v5 x2 (v7 + (cn 1))))
            else (
              kv6 v1 v2 v3 v4 v5 (v6 + (cn 0)) (v7 + (cn 1)))))
        else (
          kv6 v1 v2 v3 v4 v5 (v6 + (cn 0)) (v7 + (cn 1)))))
    else (
      if (F238 p v7 v2 (cn 0)) = 0 then (
        kv6 v1 v2 v3 v4 v5 (v6 + (cn 0)) (v7 + (cn 1)))
      else (
        if (p.1 15 5 (v7).toNatClampNeg) = 0 then (
          if ((p.1 13 15 (v7).toNatClampNeg) / (cn 2)) = (v1 / (cn 2)) then (
            kv6 v1 v2 v3 v4 v5 (v6 + (cn 0)) (v7 + (cn 1)))
          else (
            if (F239 p (p.1 13 25 (v7).toNatClampNeg) v3 v4) = 0 then (
              if (F220 p v2 (p.1 13 25 (v7).toNatClampNeg)) = 0 then (
                kv6 v1 v2 v3 v4 v5 (v6 + (cn 0)) (v7 + (cn 1)))
              else (
                let x1 : Int32 := (v6 + (p.1 13 17 (v7).toNatClampNeg))
                kv6 v1 v2 v3 v4 v5 x1 (v7 + (cn 1))))
            else (
              kv6 v1 v2 v3 v4 v5 (v6 + (cn 0)) (v7 + (cn 1)))))
        else (
          kv6 v1 v2 v3 v4 v5 (v6 + (cn 0)) (v7 + (cn 1))))))
  else (
    if v6 < v5 then (
      (cn 0))
    else (
      (cn 1)))
noncomputable def v12_isEnough_6 (p : PM) (n : Nat) : Int32 → Int32 → Int32 → Int32 → Int32 → Int32 → Int32 → Int32 := Nat.rec (motive := fun _ => Int32 → Int32 → Int32 → Int32 → Int32 → Int32 → Int32 → Int32) (fun _ _ _ _ _ _ _ => 0) (fun _ ih => bv12_isEnough_6 p v12_isNear v12_isThere v12_isBetter ih) n
theorem ev12_isEnough_6 (p : PM) (n : Nat) (v1 : Int32) (v2 : Int32) (v3 : Int32) (v4 : Int32) (v5 : Int32) (v6 : Int32) (v7 : Int32) : v12_isEnough_6 p (n + 1) v1 v2 v3 v4 v5 v6 v7 = bv12_isEnough_6 p v12_isNear v12_isThere v12_isBetter (v12_isEnough_6 p n) v1 v2 v3 v4 v5 v6 v7 := rfl
noncomputable def bg12_isEnough_6 (p : PM) (F220 : PM → Int32 → Int32 → Int32) (G220 : PM → Int32 → Int32 → Prop) (F238 : PM → Int32 → Int32 → Int32 → Int32) (G238 : PM → Int32 → Int32 → Int32 → Prop) (F239 : PM → Int32 → Int32 → Int32 → Int32) (G239 : PM → Int32 → Int32 → Int32 → Prop) (kg6 : Int32 → Int32 → Int32 → Int32 → Int32 → Int32 → Int32 → Prop) (v1 : Int32) (v2 : Int32) (v3 : Int32) (v4 : Int32) (v5 : Int32) (v6 : Int32) (v7 : Int32) : Prop :=
  if v7 < (cn 44) then (
    if v4 = 0 then (
      (G238 p v7 v2 (cn 1)) ∧ (
      if (F238 p v7 v2 (cn 1)) = 0 then (
        kg6 v1 v2 v3 v4 v5 (v6 + (cn 0)) (v7 + (cn 1)))
      else (
        (inb v7 44) ∧ (
        if (p.1 15 5 (v7).toNatClampNeg) = 0 then (
          (inb v7 44) ∧ (
          if ((p.1 13 15 (v7).toNatClampNeg) / (cn 2)) = (v1 / (cn 2)) then (
            kg6 v1 v2 v3 v4 v5 (v6 + (cn 0)) (v7 + (cn 1)))
          else (
            (inb v7 44) ∧ (
            (G239 p (p.1 13 25 (v7).toNatClampNeg) v3 v4) ∧ (
            if (F239 p (p.1 13 25 (v7).toNatClampNeg) v3 v4) = 0 then (
              (inb v7 44) ∧ (
              (G220 p v2 (p.1 13 25 (v7).toNatClampNeg)) ∧ (
              if (F220 p v2 (p.1 13 25 (v7).toNatClampNeg)) = 0 then (
                kg6 v1 v2 v3 v4 v5 (v6 + (cn 0)) (v7 + (cn 1)))
              else (
                (inb v7 44) ∧ (
                let x2 : Int32 := (v6 + (p.1 13 17 (v7).toNatClampNeg))
                kg6 v1 v2 v3 v4 v5 x2 (v7 + (cn 1)))))))
            else (
              kg6 v1 v2 v3 v4 v5 (v6 + (cn 0)) (v7 + (cn 1))))))))
        else (
          kg6 v1 v2 v3 v4 v5 (v6 + (cn 0)) (v7 + (cn 1)))))))
    else (
      (G238 p v7 v2 (cn 0)) ∧ (
      if (F238 p v7 v2 (cn 0)) = 0 then (
        kg6 v1 v2 v3 v4 v5 (v6 + (cn 0)) (v7 + (cn 1)))
      else (
        (inb v7 44) ∧ (
        if (p.1 15 5 (v7).toNatClampNeg) = 0 then (
          (inb v7 44) ∧ (
          if ((p.1 13 15 (v7).toNatClampNeg) / (cn 2)) = (v1 / (cn 2)) then (
            kg6 v1 v2 v3 v4 v5 (v6 + (cn 0)) (v7 + (cn 1)))
          else (
            (inb v7 44) ∧ (
            (G239 p (p.1 13 25 (v7).toNatClampNeg) v3 v4) ∧ (
            if (F239 p (p.1 13 25 (v7).toNatClampNeg) v3 v4) = 0 then (
              (inb v7 44) ∧ (
              (G220 p v2 (p.1 13 25 (v7).toNatClampNeg)) ∧ (
              if (F220 p v2 (p.1 13 25 (v7).toNatClampNeg)) = 0 then (
                kg6 v1 v2 v3 v4 v5 (v6 + (cn 0)) (v7 + (cn 1)))
              else (
                (inb v7 44) ∧ (
                let x1 : Int32 := (v6 + (p.1 13 17 (v7).toNatClampNeg))
                kg6 v1 v2 v3 v4 v5 x1 (v7 + (cn 1)))))))
            else (
              kg6 v1 v2 v3 v4 v5 (v6 + (cn 0)) (v7 + (cn 1))))))))
        else (
          kg6 v1 v2 v3 v4 v5 (v6 + (cn 0)) (v7 + (cn 1))))))))
  else (
    if v6 < v5 then (
      True)
    else (
      True))
noncomputable def g12_isEnough_6 (p : PM) (n : Nat) : Int32 → Int32 → Int32 → Int32 → Int32 → Int32 → Int32 → Prop := Nat.rec (motive := fun _ => Int32 → Int32 → Int32 → Int32 → Int32 → Int32 → Int32 → Prop) (fun _ _ _ _ _ _ _ => False) (fun _ ih => bg12_isEnough_6 p v12_isNear g12_isNear v12_isThere g12_isThere v12_isBetter g12_isBetter ih) n
theorem eg12_isEnough_6 (p : PM) (n : Nat) (v1 : Int32) (v2 : Int32) (v3 : Int32) (v4 : Int32) (v5 : Int32) (v6 : Int32) (v7 : Int32) : g12_isEnough_6 p (n + 1) v1 v2 v3 v4 v5 v6 v7 = bg12_isEnough_6 p v12_isNear g12_isNear v12_isThere g12_isThere v12_isBetter g12_isBetter (g12_isEnough_6 p n) v1 v2 v3 v4 v5 v6 v7 := rfl
noncomputable def bv12_isEnough (p : PM) (kv6 : Int32 → Int32 → Int32 → Int32 → Int32 → Int32 → Int32 → Int32) (v1 : Int32) (v2 : Int32) (v3 : Int32) (v4 : Int32) (v5 : Int32) : Int32 :=
  kv6 v1 v2 v3 v4 v5 (cn 0) (cn 0)
noncomputable def v12_isEnough (p : PM) (v1 : Int32) (v2 : Int32) (v3 : Int32) (v4 : Int32) (v5 : Int32) : Int32 := bv12_isEnough p (v12_isEnough_6 p FU) v1 v2 v3 v4 v5
noncomputable def bg12_isEnough (p : PM) (kg6 : Int32 → Int32 → Int32 → Int32 → Int32 → Int32 → Int32 → Prop) (v1 : Int32) (v2 : Int32) (v3 : Int32) (v4 : Int32) (v5 : Int32) : Prop :=
  kg6 v1 v2 v3 v4 v5 (cn 0) (cn 0)
noncomputable def g12_isEnough (p : PM) (v1 : Int32) (v2 : Int32) (v3 : Int32) (v4 : Int32) (v5 : Int32) : Prop := bg12_isEnough p (g12_isEnough_6 p FU) v1 v2 v3 v4 v5
noncomputable def bv12_doLimit_121 (F218 : PM → Int32 → Int32) (F224 : PM → Int32 → Int32 → Int32 → Int32 → Int32 → Int32 → Int32 → Int32 × PM) (F257 : PM → Int32 → PM) (F283 : PM → Int32 → Int32 → Int32 → Int32 → Int32 → Int32) (p : PM) (v1 : Int32) (v2 : Int32) (v3 : Int32) (v4 : Int32) (v5 : Int32) (v6 : Int32) : Int32 × PM :=
  if (p.1 12 1 0) = 0 then (
    if (F218 p v2) = 0 then (
      if v6 = (cn (-100000)) then (
        let r4 : Int32 × PM := F224 p v1 v2 v4 v3 (cn 0) (cn 0) (cn (-100000))
        let x5 : Int32 := (r4.2.1 13 14 (r4.1).toNatClampNeg)
        let p6 : PM := F257 r4.2 r4.1
        (x5, p6))
      else (
        let r1 : Int32 × PM := F224 p v1 v2 v4 v3 (cn 0) (cn 0) ((p.1 12 1 18) + v6)
        let x2 : Int32 := (r1.2.1 13 14 (r1.1).toNatClampNeg)
        let p3 : PM := F257 r1.2 r1.1
        (x2, p3)))
    else (
      if 0 < v4 then (
        if (F283 p v1 v2 v3 (cn 1) v5) = 0 then (
          if v6 = (cn (-100000)) then (
            let r22 : Int32 × PM := F224 p v1 v2 v4 v3 (cn 0) (cn 0) (cn (-100000))
            let x23 : Int32 := (r22.2.1 13 14 (r22.1).toNatClampNeg)
            let p24 : PM := pI r22.2 15 3 (r22.1).toNatClampNeg (cn 0)
            (x23, p24))
          else (
            let r19 : Int32 × PM := F224 p v1 v2 v4 v3 (cn 0) (cn 0) ((p.1 12 1 18) + v6)
            let x20 : Int32 := (r19.2.1 13 14 (r19.1).toNatClampNeg)
            let p21 : PM := pI r19.2 15 3 (r19.1).toNatClampNeg (cn 0)
            (x20, p21)))
        else (
          if v6 = (cn (-100000)) then (
            let r28 : Int32 × PM := F224 p v1 v2 v4 v3 (cn 0) (cn 0) (cn (-100000))
            let x29 : Int32 := (r28.2.1 13 14 (r28.1).toNatClampNeg)
            let p30 : PM := F257 r28.2 r28.1
            (x29, p30))
          else (
            let r25 : Int32 × PM := F224 p v1 v2 v4 v3 (cn 0) (cn 0) ((p.1 12 1 18) + v6)
            let x26 : Int32 := (r25.2.1 13 14 (r25.1).toNatClampNeg)
            let p27 : PM := F257 r25.2 r25.1
            (x26, p27))))
      else (
        if (F283 p v1 v2 v3 (cn 0) v5) = 0 then (
          if v6 = (cn (-100000)) then (
            let r10 : Int32 × PM := F224 p v1 v2 v4 v3 (cn 0) (cn 0) (cn (-100000))
            let x11 : Int32 := (r10.2.1 13 14 (r10.1).toNatClampNeg)
            let p12 : PM := pI r10.2 15 3 (r10.1).toNatClampNeg (cn 0)
            (x11, p12))
          else (
            let r7 : Int32 × PM := F224 p v1 v2 v4 v3 (cn 0) (cn 0) ((p.1 12 1 18) + v6)
            let x8 : Int32 := (r7.2.1 13 14 (r7.1).toNatClampNeg)
            let p9 : PM := pI r7.2 15 3 (r7.1).toNatClampNeg (cn 0)
            (x8, p9)))
        else (
          if v6 = (cn (-100000)) then (
            let r16 : Int32 × PM := F224 p v1 v2 v4 v3 (cn 0) (cn 0) (cn (-100000))
            let x17 : Int32 := (r16.2.1 13 14 (r16.1).toNatClampNeg)
            let p18 : PM := F257 r16.2 r16.1
            (x17, p18))
          else (
            let r13 : Int32 × PM := F224 p v1 v2 v4 v3 (cn 0) (cn 0) ((p.1 12 1 18) + v6)
            let x14 : Int32 := (r13.2.1 13 14 (r13.1).toNatClampNeg)
            let p15 : PM := F257 r13.2 r13.1
            (x14, p15))))))
  else (
    ((cn 0), p))
noncomputable def v12_doLimit_121 (p : PM) (v1 : Int32) (v2 : Int32) (v3 : Int32) (v4 : Int32) (v5 : Int32) (v6 : Int32) : Int32 × PM := bv12_doLimit_121 v12_isOpen v12_newOrder v12_enters v12_isEnough p v1 v2 v3 v4 v5 v6
noncomputable def bg12_doLimit_121 (F218 : PM → Int32 → Int32) (G218 : PM → Int32 → Prop) (F224 : PM → Int32 → Int32 → Int32 → Int32 → Int32 → Int32 → Int32 → Int32 × PM) (G224 : PM → Int32 → Int32 → Int32 → Int32 → Int32 → Int32 → Int32 → Prop) (F257 : PM → Int32 → PM) (G257 : PM → Int32 → Prop) (F283 : PM → Int32 → Int32 → Int32 → Int32 → Int32 → Int32) (G283 : PM → Int32 → Int32 → Int32 → Int32 → Int32 → Prop) (p : PM) (v1 : Int32) (v2 : Int32) (v3 : Int32) (v4 : Int32) (v5 : Int32) (v6 : Int32) : Prop :=
  if (p.1 12 1 0) = 0 then (
    (G218 p v2) ∧ (
    if (F218 p v2) = 0 then (
      if v6 = (cn (-100000)) then (
        (G224 p v1 v2 v4 v3 (cn 0) (cn 0) (cn (-100000))) ∧ (
        let r4 : Int32 × PM := F224 p v1 v2 v4 v3 (cn 0) (cn 0) (cn (-100000))
        (inb r4.1 44) ∧ (
        let x5 : Int32 := (r4.2.1 13 14 (r4.1).toNatClampNeg)
        (G257 r4.2 r4.1) ∧ (
        let p6 : PM := F257 r4.2 r4.1
        True))))
      else (
        (G224 p v1 v2 v4 v3 (cn 0) (cn 0) ((p.1 12 1 18) + v6)) ∧ (
        let r1 : Int32 × PM := F224 p v1 v2 v4 v3 (cn 0) (cn 0) ((p.1 12 1 18) + v6)
        (inb r1.1 44) ∧ (
        let x2 : Int32 := (r1.2.1 13 14 (r1.1).toNatClampNeg)
        (G257 r1.2 r1.1) ∧ (
        let p3 : PM := F257 r1.2 r1.1
        True)))))
    else (
      if 0 < v4 then (
        (G283 p v1 v2 v3 (cn 1) v5) ∧ (
        if (F283 p v1 v2 v3 (cn 1) v5) = 0 then (
          if v6 = (cn (-100000)) then (
            (G224 p v1 v2 v4 v3 (cn 0) (cn 0) (cn (-100000))) ∧ (
            let r22 : Int32 × PM := F224 p v1 v2 v4 v3 (cn 0) (cn 0) (cn (-100000))
            (inb r22.1 44) ∧ (
            let x23 : Int32 := (r22.2.1 13 14 (r22.1).toNatClampNeg)
            (inb r22.1 44) ∧ (
            let p24 : PM := pI r22.2 15 3 (r22.1).toNatClampNeg (cn 0)
            True))))
          else (
            (G224 p v1 v2 v4 v3 (cn 0) (cn 0) ((p.1 12 1 18) + v6)) ∧ (
            let r19 : Int32 × PM := F224 p v1 v2 v4 v3 (cn 0) (cn 0) ((p.1 12 1 18) + v6)
            (inb r19.1 44) ∧ (
            let x20 : Int32 := (r19.2.1 13 14 (r19.1).toNatClampNeg)
            (inb r19.1 44) ∧ (
            let p21 : PM := pI r19.2 15 3 (r19.1).toNatClampNeg (cn 0)
            True)))))
        else (
          if v6 = (cn (-100000)) then (
            (G224 p v1 v2 v4 v3 (cn 0) (cn 0) (cn (-100000))) ∧ (
            let r28 : Int32 × PM := F224 p v1 v2 v4 v3 (cn 0) (cn 0) (cn (-100000))
            (inb r28.1 44) ∧ (
            let x29 : Int32 := (r28.2.1 13 14 (r28.1).toNatClampNeg)
            (G257 r28.2 r28.1) ∧ (
            let p30 : PM := F257 r28.2 r28.1
            True))))
          else (
            (G224 p v1 v2 v4 v3 (cn 0) (cn 0) ((p.1 12 1 18) + v6)) ∧ (
            let r25 : Int32 × PM := F224 p v1 v2 v4 v3 (cn 0) (cn 0) ((p.1 12 1 18) + v6)
            (inb r25.1 44) ∧ (
            let x26 : Int32 := (r25.2.1 13 14 (r25.1).toNatClampNeg)
            (G257 r25.2 r25.1) ∧ (
            let p27 : PM := F257 r25.2 r25.1
            True)))))))
      else (
        (G283 p v1 v2 v3 (cn 0) v5) ∧ (
        if (F283 p v1 v2 v3 (cn 0) v5) = 0 then (
          if v6 = (cn (-100000)) then (
            (G224 p v1 v2 v4 v3 (cn 0) (cn 0) (cn (-100000))) ∧ (
            let r10 : Int32 × PM := F224 p v1 v2 v4 v3 (cn 0) (cn 0) (cn (-100000))
            (inb r10.1 44) ∧ (
            let x11 : Int32 := (r10.2.1 13 14 (r10.1).toNatClampNeg)
            (inb r10.1 44) ∧ (
            let p12 : PM := pI r10.2 15 3 (r10.1).toNatClampNeg (cn 0)
            True))))
          else (
            (G224 p v1 v2 v4 v3 (cn 0) (cn 0) ((p.1 12 1 18) + v6)) ∧ (
            let r7 : Int32 × PM := F224 p v1 v2 v4 v3 (cn 0) (cn 0) ((p.1 12 1 18) + v6)
            (inb r7.1 44) ∧ (
            let x8 : Int32 := (r7.2.1 13 14 (r7.1).toNatClampNeg)
            (inb r7.1 44) ∧ (
            let p9 : PM := pI r7.2 15 3 (r7.1).toNatClampNeg (cn 0)
            True)))))
        else (
          if v6 = (cn (-100000)) then (
            (G224 p v1 v2 v4 v3 (cn 0) (cn 0) (cn (-100000))) ∧ (
            let r16 : Int32 × PM := F224 p v1 v2 v4 v3 (cn 0) (cn 0) (cn (-100000))
            (inb r16.1 44) ∧ (
            let x17 : Int32 := (r16.2.1 13 14 (r16.1).toNatClampNeg)
            (G257 r16.2 r16.1) ∧ (
            let p18 : PM := F257 r16.2 r16.1
            True))))
          else (
            (G224 p v1 v2 v4 v3 (cn 0) (cn 0) ((p.1 12 1 18) + v6)) ∧ (
            let r13 : Int32 × PM := F224 p v1 v2 v4 v3 (cn 0) (cn 0) ((p.1 12 1 18) + v6)
            (inb r13.1 44) ∧ (
            let x14 : Int32 := (r13.2.1 13 14 (r13.1).toNatClampNeg)
            (G257 r13.2 r13.1) ∧ (
            let p15 : PM := F257 r13.2 r13.1
            True))))))))))
  else (
    True)
