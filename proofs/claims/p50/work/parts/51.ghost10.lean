/-! the reference as functions, a ghost beside the class (text of wip/whole/lift.py, chosen by wip/p50/ghost.py) -/
noncomputable def g12_doBid (p : PM) (v1 : Int32) (v2 : Int32) : Prop := bg12_doBid v12_in g12_in (g12_doBid_83 FU) p v1 v2
noncomputable def bv12_shares_125 (kv115 : PM → Int64 → Int64 → Int64 × PM) (kv125 : PM → Int64 → Int64 → Int32 → Int64 × PM) (p : PM) (v5 : Int64) (v7 : Int64) (v9 : Int32) : Int64 × PM :=
  if v9 < (cn 4) then (
    if 0 < (lg_cmp v5 (cl 0)) then (
      if (lg_cmp (p.2.1 14 3 (v9).toNatClampNeg) (p.2.1 14 2 (v9).toNatClampNeg)) < 0 then (
        let p3 : PM := pJ p 14 3 (v9).toNatClampNeg ((p.2.1 14 3 (v9).toNatClampNeg) + (cl 1))
        kv125 p3 (v5 - (cl 1)) v7 (v9 + (cn 1)))
      else (
        let p2 : PM := pJ p 14 3 (v9).toNatClampNeg ((p.2.1 14 3 (v9).toNatClampNeg) + (cl 0))
        kv125 p2 (v5 - (cl 0)) v7 (v9 + (cn 1))))
    else (
      let p1 : PM := pJ p 14 3 (v9).toNatClampNeg ((p.2.1 14 3 (v9).toNatClampNeg) + (cl 0))
      kv125 p1 (v5 - (cl 0)) v7 (v9 + (cn 1))))
  else (
    kv115 p v5 v7)
noncomputable def v12_shares_125 (kv115 : PM → Int64 → Int64 → Int64 × PM) (n : Nat) : PM → Int64 → Int64 → Int32 → Int64 × PM := Nat.rec (motive := fun _ => PM → Int64 → Int64 → Int32 → Int64 × PM) (fun p _ _ _ => (0, p)) (fun _ ih => bv12_shares_125 kv115 ih) n
theorem ev12_shares_125 (kv115 : PM → Int64 → Int64 → Int64 × PM) (n : Nat) (p : PM) (v5 : Int64) (v7 : Int64) (v9 : Int32) : v12_shares_125 kv115 (n + 1) p v5 v7 v9 = bv12_shares_125 kv115 (v12_shares_125 kv115 n) p v5 v7 v9 := rfl
noncomputable def bg12_shares_125 (kg115 : PM → Int64 → Int64 → Prop) (kg125 : PM → Int64 → Int64 → Int32 → Prop) (p : PM) (v5 : Int64) (v7 : Int64) (v9 : Int32) : Prop :=
  if v9 < (cn 4) then (
    if 0 < (lg_cmp v5 (cl 0)) then (
      (inb v9 4) ∧ (
      (inb v9 4) ∧ (
      if (lg_cmp (p.2.1 14 3 (v9).toNatClampNeg) (p.2.1 14 2 (v9).toNatClampNeg)) < 0 then (
        (inb v9 4) ∧ (
        (inb v9 4) ∧ (
        let p3 : PM := pJ p 14 3 (v9).toNatClampNeg ((p.2.1 14 3 (v9).toNatClampNeg) + (cl 1))
        kg125 p3 (v5 - (cl 1)) v7 (v9 + (cn 1)))))
      else (
        (inb v9 4) ∧ (
        (inb v9 4) ∧ (
        let p2 : PM := pJ p 14 3 (v9).toNatClampNeg ((p.2.1 14 3 (v9).toNatClampNeg) + (cl 0))
        kg125 p2 (v5 - (cl 0)) v7 (v9 + (cn 1))))))))
    else (
      (inb v9 4) ∧ (
      (inb v9 4) ∧ (
      let p1 : PM := pJ p 14 3 (v9).toNatClampNeg ((p.2.1 14 3 (v9).toNatClampNeg) + (cl 0))
      kg125 p1 (v5 - (cl 0)) v7 (v9 + (cn 1))))))
  else (
    kg115 p v5 v7)
noncomputable def g12_shares_125 (kg115 : PM → Int64 → Int64 → Prop) (n : Nat) : PM → Int64 → Int64 → Int32 → Prop := Nat.rec (motive := fun _ => PM → Int64 → Int64 → Int32 → Prop) (fun _ _ _ _ => False) (fun _ ih => bg12_shares_125 kg115 ih) n
theorem eg12_shares_125 (kg115 : PM → Int64 → Int64 → Prop) (n : Nat) (p : PM) (v5 : Int64) (v7 : Int64) (v9 : Int32) : g12_shares_125 kg115 (n + 1) p v5 v7 v9 = bg12_shares_125 kg115 (g12_shares_125 kg115 n) p v5 v7 v9 := rfl
noncomputable def bv12_shares_115 (kv125 : PM → Int64 → Int64 → Int32 → Int64 × PM) (p : PM) (v5 : Int64) (v7 : Int64) : Int64 × PM :=
  if 0 < (lg_cmp v5 (cl 0)) then (
    kv125 p v5 v7 (cn 0))
  else (
    (v7, p))
noncomputable def v12_shares_115 (n : Nat) : PM → Int64 → Int64 → Int64 × PM := Nat.rec (motive := fun _ => PM → Int64 → Int64 → Int64 × PM) (fun p _ _ => (0, p)) (fun _ ih => bv12_shares_115 (v12_shares_125 ih FU)) n
theorem ev12_shares_115 (n : Nat) (p : PM) (v5 : Int64) (v7 : Int64) : v12_shares_115 (n + 1) p v5 v7 = bv12_shares_115 (v12_shares_125 (v12_shares_115 n) FU) p v5 v7 := rfl
noncomputable def bg12_shares_115 (kg125 : PM → Int64 → Int64 → Int32 → Prop) (p : PM) (v5 : Int64) (v7 : Int64) : Prop :=
  if 0 < (lg_cmp v5 (cl 0)) then (
    kg125 p v5 v7 (cn 0))
  else (
    True)
noncomputable def g12_shares_115 (n : Nat) : PM → Int64 → Int64 → Prop := Nat.rec (motive := fun _ => PM → Int64 → Int64 → Prop) (fun _ _ _ => False) (fun _ ih => bg12_shares_115 (g12_shares_125 ih FU)) n
theorem eg12_shares_115 (n : Nat) (p : PM) (v5 : Int64) (v7 : Int64) : g12_shares_115 (n + 1) p v5 v7 = bg12_shares_115 (g12_shares_125 (g12_shares_115 n) FU) p v5 v7 := rfl
noncomputable def bv12_shares_47 (kv47 : PM → Int64 → Int64 → Int64 → Int64 → Int32 → Int64 × PM) (kv115 : PM → Int64 → Int64 → Int64 × PM) (p : PM) (v1 : Int64) (v3 : Int64) (v5 : Int64) (v7 : Int64) (v9 : Int32) : Int64 × PM :=
  if v9 < (cn 4) then (
    if (lg_cmp v3 (cl 0)) = 0 then (
      let p5 : PM := pJ p 14 3 (v9).toNatClampNeg (cl 0)
      let x6 : Int64 := (v5 - (p5.2.1 14 3 (v9).toNatClampNeg))
      kv47 p5 v1 v3 x6 v7 (v9 + (cn 1)))
    else (
      if (lg_cmp v1 v3) < 0 then (
        let p1 : PM := pJ p 14 3 (v9).toNatClampNeg ((v1 * (p.2.1 14 2 (v9).toNatClampNeg)) / v3)
        let x2 : Int64 := (v5 - (p1.2.1 14 3 (v9).toNatClampNeg))
        kv47 p1 v1 v3 x2 v7 (v9 + (cn 1)))
      else (
        let p3 : PM := pJ p 14 3 (v9).toNatClampNeg (p.2.1 14 2 (v9).toNatClampNeg)
        let x4 : Int64 := (v5 - (p3.2.1 14 3 (v9).toNatClampNeg))
        kv47 p3 v1 v3 x4 v7 (v9 + (cn 1)))))
  else (
    kv115 p v5 v7)
noncomputable def v12_shares_47 (n : Nat) : PM → Int64 → Int64 → Int64 → Int64 → Int32 → Int64 × PM := Nat.rec (motive := fun _ => PM → Int64 → Int64 → Int64 → Int64 → Int32 → Int64 × PM) (fun p _ _ _ _ _ => (0, p)) (fun _ ih => bv12_shares_47 ih (v12_shares_115 FU)) n
theorem ev12_shares_47 (n : Nat) (p : PM) (v1 : Int64) (v3 : Int64) (v5 : Int64) (v7 : Int64) (v9 : Int32) : v12_shares_47 (n + 1) p v1 v3 v5 v7 v9 = bv12_shares_47 (v12_shares_47 n) (v12_shares_115 FU) p v1 v3 v5 v7 v9 := rfl
noncomputable def bg12_shares_47 (kg47 : PM → Int64 → Int64 → Int64 → Int64 → Int32 → Prop) (kg115 : PM → Int64 → Int64 → Prop) (p : PM) (v1 : Int64) (v3 : Int64) (v5 : Int64) (v7 : Int64) (v9 : Int32) : Prop :=
  if v9 < (cn 4) then (
    if (lg_cmp v3 (cl 0)) = 0 then (
      (inb v9 4) ∧ (
      let p5 : PM := pJ p 14 3 (v9).toNatClampNeg (cl 0)
      (inb v9 4) ∧ (
      let x6 : Int64 := (v5 - (p5.2.1 14 3 (v9).toNatClampNeg))
      kg47 p5 v1 v3 x6 v7 (v9 + (cn 1)))))
    else (
      if (lg_cmp v1 v3) < 0 then (
        (inb v9 4) ∧ (
        (¬ v3 = 0) ∧ (
        (inb v9 4) ∧ (
        let p1 : PM := pJ p 14 3 (v9).toNatClampNeg ((v1 * (p.2.1 14 2 (v9).toNatClampNeg)) / v3)
        (inb v9 4) ∧ (
        let x2 : Int64 := (v5 - (p1.2.1 14 3 (v9).toNatClampNeg))
        kg47 p1 v1 v3 x2 v7 (v9 + (cn 1)))))))
      else (
        (inb v9 4) ∧ (
        (inb v9 4) ∧ (
        let p3 : PM := pJ p 14 3 (v9).toNatClampNeg (p.2.1 14 2 (v9).toNatClampNeg)
        (inb v9 4) ∧ (
        let x4 : Int64 := (v5 - (p3.2.1 14 3 (v9).toNatClampNeg))
        kg47 p3 v1 v3 x4 v7 (v9 + (cn 1))))))))
  else (
    kg115 p v5 v7)
noncomputable def g12_shares_47 (n : Nat) : PM → Int64 → Int64 → Int64 → Int64 → Int32 → Prop := Nat.rec (motive := fun _ => PM → Int64 → Int64 → Int64 → Int64 → Int32 → Prop) (fun _ _ _ _ _ _ => False) (fun _ ih => bg12_shares_47 ih (g12_shares_115 FU)) n
theorem eg12_shares_47 (n : Nat) (p : PM) (v1 : Int64) (v3 : Int64) (v5 : Int64) (v7 : Int64) (v9 : Int32) : g12_shares_47 (n + 1) p v1 v3 v5 v7 v9 = bg12_shares_47 (g12_shares_47 n) (g12_shares_115 FU) p v1 v3 v5 v7 v9 := rfl
noncomputable def bv12_shares_5 (kv5 : PM → Int64 → Int64 → Int32 → Int64 × PM) (kv47 : PM → Int64 → Int64 → Int64 → Int64 → Int32 → Int64 × PM) (p : PM) (v1 : Int64) (v3 : Int64) (v5 : Int32) : Int64 × PM :=
  if v5 < (cn 4) then (
    let x1 : Int64 := (v3 + (p.2.1 14 2 (v5).toNatClampNeg))
    kv5 p v1 x1 (v5 + (cn 1)))
  else (
    if (lg_cmp v1 v3) < 0 then (
      kv47 p v1 v3 v1 v1 (cn 0))
    else (
      kv47 p v1 v3 v3 v3 (cn 0)))
noncomputable def v12_shares_5 (n : Nat) : PM → Int64 → Int64 → Int32 → Int64 × PM := Nat.rec (motive := fun _ => PM → Int64 → Int64 → Int32 → Int64 × PM) (fun p _ _ _ => (0, p)) (fun _ ih => bv12_shares_5 ih (v12_shares_47 FU)) n
theorem ev12_shares_5 (n : Nat) (p : PM) (v1 : Int64) (v3 : Int64) (v5 : Int32) : v12_shares_5 (n + 1) p v1 v3 v5 = bv12_shares_5 (v12_shares_5 n) (v12_shares_47 FU) p v1 v3 v5 := rfl
noncomputable def bg12_shares_5 (kg5 : PM → Int64 → Int64 → Int32 → Prop) (kg47 : PM → Int64 → Int64 → Int64 → Int64 → Int32 → Prop) (p : PM) (v1 : Int64) (v3 : Int64) (v5 : Int32) : Prop :=
  if v5 < (cn 4) then (
    (inb v5 4) ∧ (
    let x1 : Int64 := (v3 + (p.2.1 14 2 (v5).toNatClampNeg))
    kg5 p v1 x1 (v5 + (cn 1))))
  else (
    if (lg_cmp v1 v3) < 0 then (
      kg47 p v1 v3 v1 v1 (cn 0))
    else (
      kg47 p v1 v3 v3 v3 (cn 0)))
noncomputable def g12_shares_5 (n : Nat) : PM → Int64 → Int64 → Int32 → Prop := Nat.rec (motive := fun _ => PM → Int64 → Int64 → Int32 → Prop) (fun _ _ _ _ => False) (fun _ ih => bg12_shares_5 ih (g12_shares_47 FU)) n
theorem eg12_shares_5 (n : Nat) (p : PM) (v1 : Int64) (v3 : Int64) (v5 : Int32) : g12_shares_5 (n + 1) p v1 v3 v5 = bg12_shares_5 (g12_shares_5 n) (g12_shares_47 FU) p v1 v3 v5 := rfl
noncomputable def bv12_shares (kv5 : PM → Int64 → Int64 → Int32 → Int64 × PM) (p : PM) (v1 : Int64) : Int64 × PM :=
  kv5 p v1 (cl 0) (cn 0)
noncomputable def v12_shares (p : PM) (v1 : Int64) : Int64 × PM := bv12_shares (v12_shares_5 FU) p v1
noncomputable def bg12_shares (kg5 : PM → Int64 → Int64 → Int32 → Prop) (p : PM) (v1 : Int64) : Prop :=
  kg5 p v1 (cl 0) (cn 0)
noncomputable def g12_shares (p : PM) (v1 : Int64) : Prop := bg12_shares (g12_shares_5 FU) p v1
noncomputable def bv12_winner_4 (p : PM) (kv4 : Int32 → Int32 → Int32) (v1 : Int32) (v2 : Int32) : Int32 :=
  if v2 < (cn 4) then (
    if (p.1 15 10 (v2).toNatClampNeg) = 0 then (
      kv4 v1 (v2 + (cn 1)))
    else (
      if v1 < 0 then (
        kv4 v2 (v2 + (cn 1)))
      else (
        if (p.1 13 39 (v1).toNatClampNeg) < (p.1 13 39 (v2).toNatClampNeg) then (
          kv4 v2 (v2 + (cn 1)))
        else (
          kv4 v1 (v2 + (cn 1))))))
  else (
    v1)
noncomputable def v12_winner_4 (p : PM) (n : Nat) : Int32 → Int32 → Int32 := Nat.rec (motive := fun _ => Int32 → Int32 → Int32) (fun _ _ => 0) (fun _ ih => bv12_winner_4 p ih) n
theorem ev12_winner_4 (p : PM) (n : Nat) (v1 : Int32) (v2 : Int32) : v12_winner_4 p (n + 1) v1 v2 = bv12_winner_4 p (v12_winner_4 p n) v1 v2 := rfl
noncomputable def bg12_winner_4 (p : PM) (kg4 : Int32 → Int32 → Prop) (v1 : Int32) (v2 : Int32) : Prop :=
  if v2 < (cn 4) then (
    (inb v2 4) ∧ (
    if (p.1 15 10 (v2).toNatClampNeg) = 0 then (
      kg4 v1 (v2 + (cn 1)))
    else (
      if v1 < 0 then (
        kg4 v2 (v2 + (cn 1)))
      else (
        (inb v2 4) ∧ (
        (inb v1 4) ∧ (
        if (p.1 13 39 (v1).toNatClampNeg) < (p.1 13 39 (v2).toNatClampNeg) then (
          kg4 v2 (v2 + (cn 1)))
        else (
          kg4 v1 (v2 + (cn 1)))))))))
  else (
    True)
noncomputable def g12_winner_4 (p : PM) (n : Nat) : Int32 → Int32 → Prop := Nat.rec (motive := fun _ => Int32 → Int32 → Prop) (fun _ _ => False) (fun _ ih => bg12_winner_4 p ih) n
theorem eg12_winner_4 (p : PM) (n : Nat) (v1 : Int32) (v2 : Int32) : g12_winner_4 p (n + 1) v1 v2 = bg12_winner_4 p (g12_winner_4 p n) v1 v2 := rfl
noncomputable def bv12_winner (p : PM) (kv4 : Int32 → Int32 → Int32) : Int32 :=
  kv4 (cn (-1)) (cn 0)
noncomputable def v12_winner (p : PM) : Int32 := bv12_winner p (v12_winner_4 p FU)
noncomputable def bg12_winner (p : PM) (kg4 : Int32 → Int32 → Prop) : Prop :=
  kg4 (cn (-1)) (cn 0)
noncomputable def g12_winner (p : PM) : Prop := bg12_winner p (g12_winner_4 p FU)
noncomputable def bv12_covers (p : PM) (v1 : Int32) (v2 : Int64) (v4 : Int32) : PM :=
  if 0 < (lg_cmp v2 (cl 0)) then (
    let p5 : PM := pI p 12 1 68 v1
    let p6 : PM := pJ p5 14 1 (((cn 2) * v4)).toNatClampNeg ((p5.2.1 14 1 (((cn 2) * v4)).toNatClampNeg) + v2)
    if 0 < (lg_cmp (p6.2.1 12 1 69) v2) then (
      let p8 : PM := pJ p6 12 1 69 ((p6.2.1 12 1 69) - v2)
      p8)
    else (
      let p7 : PM := pJ p6 12 1 69 (cl 0)
      p7))
  else (
    let p1 : PM := pI p 12 1 68 (p.1 12 1 68)
    let p2 : PM := pJ p1 14 1 (((cn 2) * v4)).toNatClampNeg ((p1.2.1 14 1 (((cn 2) * v4)).toNatClampNeg) + v2)
    if 0 < (lg_cmp (p2.2.1 12 1 69) v2) then (
      let p4 : PM := pJ p2 12 1 69 ((p2.2.1 12 1 69) - v2)
      p4)
    else (
      let p3 : PM := pJ p2 12 1 69 (cl 0)
      p3))
noncomputable def v12_covers (p : PM) (v1 : Int32) (v2 : Int64) (v4 : Int32) : PM := bv12_covers p v1 v2 v4
noncomputable def bg12_covers (p : PM) (v1 : Int32) (v2 : Int64) (v4 : Int32) : Prop :=
  if 0 < (lg_cmp v2 (cl 0)) then (
    let p5 : PM := pI p 12 1 68 v1
    (inb ((cn 2) * v4) 9) ∧ (
    (inb ((cn 2) * v4) 9) ∧ (
    let p6 : PM := pJ p5 14 1 (((cn 2) * v4)).toNatClampNeg ((p5.2.1 14 1 (((cn 2) * v4)).toNatClampNeg) + v2)
    if 0 < (lg_cmp (p6.2.1 12 1 69) v2) then (
      let p8 : PM := pJ p6 12 1 69 ((p6.2.1 12 1 69) - v2)
      True)
    else (
      let p7 : PM := pJ p6 12 1 69 (cl 0)
      True))))
  else (
    let p1 : PM := pI p 12 1 68 (p.1 12 1 68)
    (inb ((cn 2) * v4) 9) ∧ (
    (inb ((cn 2) * v4) 9) ∧ (
    let p2 : PM := pJ p1 14 1 (((cn 2) * v4)).toNatClampNeg ((p1.2.1 14 1 (((cn 2) * v4)).toNatClampNeg) + v2)
    if 0 < (lg_cmp (p2.2.1 12 1 69) v2) then (
      let p4 : PM := pJ p2 12 1 69 ((p2.2.1 12 1 69) - v2)
      True)
    else (
      let p3 : PM := pJ p2 12 1 69 (cl 0)
      True))))
noncomputable def g12_covers (p : PM) (v1 : Int32) (v2 : Int64) (v4 : Int32) : Prop := bg12_covers p v1 v2 v4
noncomputable def bv12_upTo (p : PM) (v1 : Int64) : Int64 :=
  if (lg_cmp v1 (p.2.1 12 1 69)) < 0 then (
    v1)
  else (
    (p.2.1 12 1 69))
noncomputable def v12_upTo (p : PM) (v1 : Int64) : Int64 := bv12_upTo p v1
noncomputable def bg12_upTo (p : PM) (v1 : Int64) : Prop :=
  if (lg_cmp v1 (p.2.1 12 1 69)) < 0 then (
    True)
  else (
    True)
noncomputable def g12_upTo (p : PM) (v1 : Int64) : Prop := bg12_upTo p v1
noncomputable def bv12_coversByFunds_103 (F314 : PM → Int32 → Int64 → Int32 → PM) (kv103 : PM → Int32 → Int32 → Int64 → Int32 → PM) (p : PM) (v1 : Int32) (v3 : Int32) (v4 : Int64) (v6 : Int32) : PM :=
  if v6 < (cn 4) then (
    let p3 : PM := pI p 13 38 (v6).toNatClampNeg ((p.1 13 38 (v6).toNatClampNeg) - ((p.2.1 14 3 (v6).toNatClampNeg)).toInt32)
    kv103 p3 v1 v3 v4 (v6 + (cn 1)))
  else (
    if v3 = 0 then (
      let p1 : PM := F314 p (cn 6) v4 v1
      p1)
    else (
      let p2 : PM := F314 p (cn 5) v4 v1
      p2))
noncomputable def v12_coversByFunds_103 (n : Nat) : PM → Int32 → Int32 → Int64 → Int32 → PM := Nat.rec (motive := fun _ => PM → Int32 → Int32 → Int64 → Int32 → PM) (fun p _ _ _ _ => p) (fun _ ih => bv12_coversByFunds_103 v12_covers ih) n
theorem ev12_coversByFunds_103 (n : Nat) (p : PM) (v1 : Int32) (v3 : Int32) (v4 : Int64) (v6 : Int32) : v12_coversByFunds_103 (n + 1) p v1 v3 v4 v6 = bv12_coversByFunds_103 v12_covers (v12_coversByFunds_103 n) p v1 v3 v4 v6 := rfl
noncomputable def bg12_coversByFunds_103 (F314 : PM → Int32 → Int64 → Int32 → PM) (G314 : PM → Int32 → Int64 → Int32 → Prop) (kg103 : PM → Int32 → Int32 → Int64 → Int32 → Prop) (p : PM) (v1 : Int32) (v3 : Int32) (v4 : Int64) (v6 : Int32) : Prop :=
  if v6 < (cn 4) then (
    (inb v6 4) ∧ (
    (inb v6 4) ∧ (
    (inb v6 4) ∧ (
    let p3 : PM := pI p 13 38 (v6).toNatClampNeg ((p.1 13 38 (v6).toNatClampNeg) - ((p.2.1 14 3 (v6).toNatClampNeg)).toInt32)
    kg103 p3 v1 v3 v4 (v6 + (cn 1))))))
  else (
    if v3 = 0 then (
      (G314 p (cn 6) v4 v1) ∧ (
      let p1 : PM := F314 p (cn 6) v4 v1
      True))
    else (
      (G314 p (cn 5) v4 v1) ∧ (
      let p2 : PM := F314 p (cn 5) v4 v1
      True)))
noncomputable def g12_coversByFunds_103 (n : Nat) : PM → Int32 → Int32 → Int64 → Int32 → Prop := Nat.rec (motive := fun _ => PM → Int32 → Int32 → Int64 → Int32 → Prop) (fun _ _ _ _ _ => False) (fun _ ih => bg12_coversByFunds_103 v12_covers g12_covers ih) n
theorem eg12_coversByFunds_103 (n : Nat) (p : PM) (v1 : Int32) (v3 : Int32) (v4 : Int64) (v6 : Int32) : g12_coversByFunds_103 (n + 1) p v1 v3 v4 v6 = bg12_coversByFunds_103 v12_covers g12_covers (g12_coversByFunds_103 n) p v1 v3 v4 v6 := rfl
noncomputable def bv12_coversByFunds_3 (F312 : PM → Int64 → Int64 × PM) (kv3 : PM → Int32 → Int32 → Int32 → Int32 → PM) (kv103 : PM → Int32 → Int32 → Int64 → Int32 → PM) (p : PM) (v1 : Int32) (v2 : Int32) (v3 : Int32) (v4 : Int32) : PM :=
  if v4 < (cn 4) then (
    if (p.1 15 10 (v4).toNatClampNeg) = 0 then (
      if (p.1 15 9 (v4).toNatClampNeg) = 0 then (
        if (cn 1) = v3 then (
          let p4 : PM := pJ p 14 2 (v4).toNatClampNeg ((p.1 13 38 (v4).toNatClampNeg)).toInt64
          kv3 p4 v1 v2 v3 (v4 + (cn 1)))
        else (
          let p3 : PM := pJ p 14 2 (v4).toNatClampNeg (cl 0)
          kv3 p3 v1 v2 v3 (v4 + (cn 1))))
      else (
        let p2 : PM := pJ p 14 2 (v4).toNatClampNeg (cl 0)
        kv3 p2 v1 v2 v3 (v4 + (cn 1))))
    else (
      if v2 < 0 then (
        if (p.1 15 9 (v4).toNatClampNeg) = 0 then (
          if (cn 0) = v3 then (
            let p7 : PM := pJ p 14 2 (v4).toNatClampNeg ((p.1 13 38 (v4).toNatClampNeg)).toInt64
            kv3 p7 v1 v2 v3 (v4 + (cn 1)))
          else (
            let p6 : PM := pJ p 14 2 (v4).toNatClampNeg (cl 0)
            kv3 p6 v1 v2 v3 (v4 + (cn 1))))
        else (
          let p5 : PM := pJ p 14 2 (v4).toNatClampNeg (cl 0)
          kv3 p5 v1 v2 v3 (v4 + (cn 1))))
      else (
        if (p.1 13 39 (v4).toNatClampNeg) < ((p.1 13 39 (v2).toNatClampNeg) - (cn 100)) then (
          if (p.1 15 9 (v4).toNatClampNeg) = 0 then (
            if (cn 1) = v3 then (
              let p13 : PM := pJ p 14 2 (v4).toNatClampNeg ((p.1 13 38 (v4).toNatClampNeg)).toInt64
              kv3 p13 v1 v2 v3 (v4 + (cn 1)))
            else (
              let p12 : PM := pJ p 14 2 (v4).toNatClampNeg (cl 0)
              kv3 p12 v1 v2 v3 (v4 + (cn 1))))
          else (
            let p11 : PM := pJ p 14 2 (v4).toNatClampNeg (cl 0)
            kv3 p11 v1 v2 v3 (v4 + (cn 1))))
        else (
          if (p.1 15 9 (v4).toNatClampNeg) = 0 then (
            if (cn 0) = v3 then (
              let p10 : PM := pJ p 14 2 (v4).toNatClampNeg ((p.1 13 38 (v4).toNatClampNeg)).toInt64
              kv3 p10 v1 v2 v3 (v4 + (cn 1)))
            else (
              let p9 : PM := pJ p 14 2 (v4).toNatClampNeg (cl 0)
              kv3 p9 v1 v2 v3 (v4 + (cn 1))))
          else (
            let p8 : PM := pJ p 14 2 (v4).toNatClampNeg (cl 0)
            kv3 p8 v1 v2 v3 (v4 + (cn 1)))))))
  else (
    let r1 : Int64 × PM := F312 p (p.2.1 12 1 69)
    kv103 r1.2 v1 v3 r1.1 (cn 0))
noncomputable def v12_coversByFunds_3 (n : Nat) : PM → Int32 → Int32 → Int32 → Int32 → PM := Nat.rec (motive := fun _ => PM → Int32 → Int32 → Int32 → Int32 → PM) (fun p _ _ _ _ => p) (fun _ ih => bv12_coversByFunds_3 v12_shares ih (v12_coversByFunds_103 FU)) n
theorem ev12_coversByFunds_3 (n : Nat) (p : PM) (v1 : Int32) (v2 : Int32) (v3 : Int32) (v4 : Int32) : v12_coversByFunds_3 (n + 1) p v1 v2 v3 v4 = bv12_coversByFunds_3 v12_shares (v12_coversByFunds_3 n) (v12_coversByFunds_103 FU) p v1 v2 v3 v4 := rfl
noncomputable def bg12_coversByFunds_3 (F312 : PM → Int64 → Int64 × PM) (G312 : PM → Int64 → Prop) (kg3 : PM → Int32 → Int32 → Int32 → Int32 → Prop) (kg103 : PM → Int32 → Int32 → Int64 → Int32 → Prop) (p : PM) (v1 : Int32) (v2 : Int32) (v3 : Int32) (v4 : Int32) : Prop :=
  if v4 < (cn 4) then (
    (inb v4 4) ∧ (
    if (p.1 15 10 (v4).toNatClampNeg) = 0 then (
      (inb v4 4) ∧ (
      if (p.1 15 9 (v4).toNatClampNeg) = 0 then (
        if (cn 1) = v3 then (
          (inb v4 4) ∧ (
          (inb v4 4) ∧ (
          let p4 : PM := pJ p 14 2 (v4).toNatClampNeg ((p.1 13 38 (v4).toNatClampNeg)).toInt64
          kg3 p4 v1 v2 v3 (v4 + (cn 1)))))
        else (
          (inb v4 4) ∧ (
          let p3 : PM := pJ p 14 2 (v4).toNatClampNeg (cl 0)
          kg3 p3 v1 v2 v3 (v4 + (cn 1)))))
      else (
        (inb v4 4) ∧ (
        let p2 : PM := pJ p 14 2 (v4).toNatClampNeg (cl 0)
        kg3 p2 v1 v2 v3 (v4 + (cn 1))))))
    else (
      if v2 < 0 then (
        (inb v4 4) ∧ (
        if (p.1 15 9 (v4).toNatClampNeg) = 0 then (
          if (cn 0) = v3 then (
            (inb v4 4) ∧ (
            (inb v4 4) ∧ (
            let p7 : PM := pJ p 14 2 (v4).toNatClampNeg ((p.1 13 38 (v4).toNatClampNeg)).toInt64
            kg3 p7 v1 v2 v3 (v4 + (cn 1)))))
          else (
            (inb v4 4) ∧ (
            let p6 : PM := pJ p 14 2 (v4).toNatClampNeg (cl 0)
            kg3 p6 v1 v2 v3 (v4 + (cn 1)))))
        else (
          (inb v4 4) ∧ (
          let p5 : PM := pJ p 14 2 (v4).toNatClampNeg (cl 0)
          kg3 p5 v1 v2 v3 (v4 + (cn 1))))))
      else (
        (inb v4 4) ∧ (
        (inb v2 4) ∧ (
        if (p.1 13 39 (v4).toNatClampNeg) < ((p.1 13 39 (v2).toNatClampNeg) - (cn 100)) then (
          (inb v4 4) ∧ (
          if (p.1 15 9 (v4).toNatClampNeg) = 0 then (
            if (cn 1) = v3 then (
              (inb v4 4) ∧ (
              (inb v4 4) ∧ (
              let p13 : PM := pJ p 14 2 (v4).toNatClampNeg ((p.1 13 38 (v4).toNatClampNeg)).toInt64
              kg3 p13 v1 v2 v3 (v4 + (cn 1)))))
            else (
              (inb v4 4) ∧ (
              let p12 : PM := pJ p 14 2 (v4).toNatClampNeg (cl 0)
              kg3 p12 v1 v2 v3 (v4 + (cn 1)))))
          else (
            (inb v4 4) ∧ (
            let p11 : PM := pJ p 14 2 (v4).toNatClampNeg (cl 0)
            kg3 p11 v1 v2 v3 (v4 + (cn 1))))))
        else (
          (inb v4 4) ∧ (
          if (p.1 15 9 (v4).toNatClampNeg) = 0 then (
            if (cn 0) = v3 then (
              (inb v4 4) ∧ (
              (inb v4 4) ∧ (
              let p10 : PM := pJ p 14 2 (v4).toNatClampNeg ((p.1 13 38 (v4).toNatClampNeg)).toInt64
              kg3 p10 v1 v2 v3 (v4 + (cn 1)))))
            else (
              (inb v4 4) ∧ (
              let p9 : PM := pJ p 14 2 (v4).toNatClampNeg (cl 0)
              kg3 p9 v1 v2 v3 (v4 + (cn 1)))))
          else (
            (inb v4 4) ∧ (
            let p8 : PM := pJ p 14 2 (v4).toNatClampNeg (cl 0)
            kg3 p8 v1 v2 v3 (v4 + (cn 1))))))))))))
  else (
    (G312 p (p.2.1 12 1 69)) ∧ (
    let r1 : Int64 × PM := F312 p (p.2.1 12 1 69)
    kg103 r1.2 v1 v3 r1.1 (cn 0)))
noncomputable def g12_coversByFunds_3 (n : Nat) : PM → Int32 → Int32 → Int32 → Int32 → Prop := Nat.rec (motive := fun _ => PM → Int32 → Int32 → Int32 → Int32 → Prop) (fun _ _ _ _ _ => False) (fun _ ih => bg12_coversByFunds_3 v12_shares g12_shares ih (g12_coversByFunds_103 FU)) n
theorem eg12_coversByFunds_3 (n : Nat) (p : PM) (v1 : Int32) (v2 : Int32) (v3 : Int32) (v4 : Int32) : g12_coversByFunds_3 (n + 1) p v1 v2 v3 v4 = bg12_coversByFunds_3 v12_shares g12_shares (g12_coversByFunds_3 n) (g12_coversByFunds_103 FU) p v1 v2 v3 v4 := rfl
noncomputable def bv12_coversByFunds (kv3 : PM → Int32 → Int32 → Int32 → Int32 → PM) (p : PM) (v1 : Int32) (v2 : Int32) (v3 : Int32) : PM :=
  kv3 p v1 v2 v3 (cn 0)
noncomputable def v12_coversByFunds (p : PM) (v1 : Int32) (v2 : Int32) (v3 : Int32) : PM := bv12_coversByFunds (v12_coversByFunds_3 FU) p v1 v2 v3
noncomputable def bg12_coversByFunds (kg3 : PM → Int32 → Int32 → Int32 → Int32 → Prop) (p : PM) (v1 : Int32) (v2 : Int32) (v3 : Int32) : Prop :=
  kg3 p v1 v2 v3 (cn 0)
noncomputable def g12_coversByFunds (p : PM) (v1 : Int32) (v2 : Int32) (v3 : Int32) : Prop := bg12_coversByFunds (g12_coversByFunds_3 FU) p v1 v2 v3
noncomputable def bv12_coversAll_325 (F314 : PM → Int32 → Int64 → Int32 → PM) (kv325 : PM → Int32 → Int64 → Int32 → PM) (p : PM) (v1 : Int32) (v13 : Int64) (v15 : Int32) : PM :=
  if v15 < (cn 4) then (
    let p4 : PM := pJ p 14 1 (((cn 2) * v15)).toNatClampNeg ((p.2.1 14 1 (((cn 2) * v15)).toNatClampNeg) - (p.2.1 14 3 (v15).toNatClampNeg))
    kv325 p4 v1 v13 (v15 + (cn 1)))
  else (
    let p1 : PM := F314 p (cn 7) v13 v1
    let p2 : PM := pJ p1 14 1 8 ((p1.2.1 14 1 8) - (p1.2.1 12 1 69))
    let p3 : PM := F314 p2 (cn 8) (p1.2.1 12 1 69) v1
    p3)
noncomputable def v12_coversAll_325 (n : Nat) : PM → Int32 → Int64 → Int32 → PM := Nat.rec (motive := fun _ => PM → Int32 → Int64 → Int32 → PM) (fun p _ _ _ => p) (fun _ ih => bv12_coversAll_325 v12_covers ih) n
theorem ev12_coversAll_325 (n : Nat) (p : PM) (v1 : Int32) (v13 : Int64) (v15 : Int32) : v12_coversAll_325 (n + 1) p v1 v13 v15 = bv12_coversAll_325 v12_covers (v12_coversAll_325 n) p v1 v13 v15 := rfl
noncomputable def bg12_coversAll_325 (F314 : PM → Int32 → Int64 → Int32 → PM) (G314 : PM → Int32 → Int64 → Int32 → Prop) (kg325 : PM → Int32 → Int64 → Int32 → Prop) (p : PM) (v1 : Int32) (v13 : Int64) (v15 : Int32) : Prop :=
  if v15 < (cn 4) then (
    (inb ((cn 2) * v15) 9) ∧ (
    (inb v15 4) ∧ (
    (inb ((cn 2) * v15) 9) ∧ (
    let p4 : PM := pJ p 14 1 (((cn 2) * v15)).toNatClampNeg ((p.2.1 14 1 (((cn 2) * v15)).toNatClampNeg) - (p.2.1 14 3 (v15).toNatClampNeg))
    kg325 p4 v1 v13 (v15 + (cn 1))))))
  else (
    (G314 p (cn 7) v13 v1) ∧ (
    let p1 : PM := F314 p (cn 7) v13 v1
    let p2 : PM := pJ p1 14 1 8 ((p1.2.1 14 1 8) - (p1.2.1 12 1 69))
    (G314 p2 (cn 8) (p1.2.1 12 1 69) v1) ∧ (
    let p3 : PM := F314 p2 (cn 8) (p1.2.1 12 1 69) v1
    True)))
noncomputable def g12_coversAll_325 (n : Nat) : PM → Int32 → Int64 → Int32 → Prop := Nat.rec (motive := fun _ => PM → Int32 → Int64 → Int32 → Prop) (fun _ _ _ _ => False) (fun _ ih => bg12_coversAll_325 v12_covers g12_covers ih) n
theorem eg12_coversAll_325 (n : Nat) (p : PM) (v1 : Int32) (v13 : Int64) (v15 : Int32) : g12_coversAll_325 (n + 1) p v1 v13 v15 = bg12_coversAll_325 v12_covers g12_covers (g12_coversAll_325 n) p v1 v13 v15 := rfl
noncomputable def bv12_coversAll_272 (F312 : PM → Int64 → Int64 × PM) (kv272 : PM → Int32 → Int32 → PM) (kv325 : PM → Int32 → Int64 → Int32 → PM) (p : PM) (v1 : Int32) (v13 : Int32) : PM :=
  if v13 < (cn 4) then (
    if (p.1 15 9 (v13).toNatClampNeg) = 0 then (
      let p2 : PM := pJ p 14 2 (v13).toNatClampNeg (p.2.1 14 2 (v13).toNatClampNeg)
      kv272 p2 v1 (v13 + (cn 1)))
    else (
      let p3 : PM := pJ p 14 2 (v13).toNatClampNeg (cl 0)
      kv272 p3 v1 (v13 + (cn 1))))
  else (
    let r1 : Int64 × PM := F312 p (p.2.1 12 1 69)
    kv325 r1.2 v1 r1.1 (cn 0))
noncomputable def v12_coversAll_272 (n : Nat) : PM → Int32 → Int32 → PM := Nat.rec (motive := fun _ => PM → Int32 → Int32 → PM) (fun p _ _ => p) (fun _ ih => bv12_coversAll_272 v12_shares ih (v12_coversAll_325 FU)) n
theorem ev12_coversAll_272 (n : Nat) (p : PM) (v1 : Int32) (v13 : Int32) : v12_coversAll_272 (n + 1) p v1 v13 = bv12_coversAll_272 v12_shares (v12_coversAll_272 n) (v12_coversAll_325 FU) p v1 v13 := rfl
noncomputable def bg12_coversAll_272 (F312 : PM → Int64 → Int64 × PM) (G312 : PM → Int64 → Prop) (kg272 : PM → Int32 → Int32 → Prop) (kg325 : PM → Int32 → Int64 → Int32 → Prop) (p : PM) (v1 : Int32) (v13 : Int32) : Prop :=
  if v13 < (cn 4) then (
    (inb v13 4) ∧ (
    if (p.1 15 9 (v13).toNatClampNeg) = 0 then (
      (inb v13 4) ∧ (
      (inb v13 4) ∧ (
      let p2 : PM := pJ p 14 2 (v13).toNatClampNeg (p.2.1 14 2 (v13).toNatClampNeg)
      kg272 p2 v1 (v13 + (cn 1)))))
    else (
      (inb v13 4) ∧ (
      let p3 : PM := pJ p 14 2 (v13).toNatClampNeg (cl 0)
      kg272 p3 v1 (v13 + (cn 1))))))
  else (
    (G312 p (p.2.1 12 1 69)) ∧ (
    let r1 : Int64 × PM := F312 p (p.2.1 12 1 69)
    kg325 r1.2 v1 r1.1 (cn 0)))
noncomputable def g12_coversAll_272 (n : Nat) : PM → Int32 → Int32 → Prop := Nat.rec (motive := fun _ => PM → Int32 → Int32 → Prop) (fun _ _ _ => False) (fun _ ih => bg12_coversAll_272 v12_shares g12_shares ih (g12_coversAll_325 FU)) n
theorem eg12_coversAll_272 (n : Nat) (p : PM) (v1 : Int32) (v13 : Int32) : g12_coversAll_272 (n + 1) p v1 v13 = bg12_coversAll_272 v12_shares g12_shares (g12_coversAll_272 n) (g12_coversAll_325 FU) p v1 v13 := rfl
noncomputable def bv12_coversAll_242 (kv272 : PM → Int32 → Int32 → PM) (p : PM) (v1 : Int32) (v10 : Int32) (v11 : Int32) (v12 : Int32) : PM :=
  let p1 : PM := pJ p 14 2 1 (v10).toInt64
  let p2 : PM := pJ p1 14 2 2 (v11).toInt64
  let p3 : PM := pJ p2 14 2 3 (v12).toInt64
  kv272 p3 v1 (cn 0)
noncomputable def v12_coversAll_242 (p : PM) (v1 : Int32) (v10 : Int32) (v11 : Int32) (v12 : Int32) : PM := bv12_coversAll_242 (v12_coversAll_272 FU) p v1 v10 v11 v12
noncomputable def bg12_coversAll_242 (kg272 : PM → Int32 → Int32 → Prop) (p : PM) (v1 : Int32) (v10 : Int32) (v11 : Int32) (v12 : Int32) : Prop :=
  let p1 : PM := pJ p 14 2 1 (v10).toInt64
  let p2 : PM := pJ p1 14 2 2 (v11).toInt64
  let p3 : PM := pJ p2 14 2 3 (v12).toInt64
  kg272 p3 v1 (cn 0)
noncomputable def g12_coversAll_242 (p : PM) (v1 : Int32) (v10 : Int32) (v11 : Int32) (v12 : Int32) : Prop := bg12_coversAll_242 (g12_coversAll_272 FU) p v1 v10 v11 v12
noncomputable def bv12_coversAll_159 (F314 : PM → Int32 → Int64 → Int32 → PM) (F315 : PM → Int64 → Int64) (F318 : PM → Int32 → Int32 → Int32 → PM) (kv242 : PM → Int32 → Int32 → Int32 → Int32 → PM) (p : PM) (v1 : Int32) (v2 : Int32) : PM :=
  let x1 : Int64 := (F315 p ((p.1 12 1 58)).toInt64)
  let p2 : PM := pI p 12 1 58 ((p.1 12 1 58) - (x1).toInt32)
  let p3 : PM := F314 p2 (cn 4) x1 v1
  let p4 : PM := F318 p3 v1 v2 (cn 1)
  let p5 : PM := F318 p4 v1 v2 (cn 0)
  let p6 : PM := pJ p5 14 2 0 ((p3.1 13 38 0)).toInt64
  kv242 p6 v1 (p3.1 13 38 1) (p3.1 13 38 2) (p3.1 13 38 3)
noncomputable def v12_coversAll_159 (p : PM) (v1 : Int32) (v2 : Int32) : PM := bv12_coversAll_159 v12_covers v12_upTo v12_coversByFunds v12_coversAll_242 p v1 v2
noncomputable def bg12_coversAll_159 (F314 : PM → Int32 → Int64 → Int32 → PM) (G314 : PM → Int32 → Int64 → Int32 → Prop) (F315 : PM → Int64 → Int64) (G315 : PM → Int64 → Prop) (F318 : PM → Int32 → Int32 → Int32 → PM) (G318 : PM → Int32 → Int32 → Int32 → Prop) (kg242 : PM → Int32 → Int32 → Int32 → Int32 → Prop) (p : PM) (v1 : Int32) (v2 : Int32) : Prop :=
  (G315 p ((p.1 12 1 58)).toInt64) ∧ (
  let x1 : Int64 := (F315 p ((p.1 12 1 58)).toInt64)
  let p2 : PM := pI p 12 1 58 ((p.1 12 1 58) - (x1).toInt32)
  (G314 p2 (cn 4) x1 v1) ∧ (
  let p3 : PM := F314 p2 (cn 4) x1 v1
  (G318 p3 v1 v2 (cn 1)) ∧ (
  let p4 : PM := F318 p3 v1 v2 (cn 1)
  (G318 p4 v1 v2 (cn 0)) ∧ (
  let p5 : PM := F318 p4 v1 v2 (cn 0)
  let p6 : PM := pJ p5 14 2 0 ((p3.1 13 38 0)).toInt64
  kg242 p6 v1 (p3.1 13 38 1) (p3.1 13 38 2) (p3.1 13 38 3)))))
noncomputable def g12_coversAll_159 (p : PM) (v1 : Int32) (v2 : Int32) : Prop := bg12_coversAll_159 v12_covers g12_covers v12_upTo g12_upTo v12_coversByFunds g12_coversByFunds g12_coversAll_242 p v1 v2
noncomputable def bv12_coversAll (F314 : PM → Int32 → Int64 → Int32 → PM) (F315 : PM → Int64 → Int64) (kv159 : PM → Int32 → Int32 → PM) (p : PM) (v1 : Int32) (v2 : Int32) : PM :=
  let x1 : Int64 := (F315 p ((p.1 13 36 (v1).toNatClampNeg)).toInt64)
  let p2 : PM := pI p 13 36 (v1).toNatClampNeg ((p.1 13 36 (v1).toNatClampNeg) - (x1).toInt32)
  let p3 : PM := F314 p2 (cn 1) x1 v1
  let x4 : Int64 := ((((p3.2.1 12 1 69) + ((p3.1 13 10 1)).toInt64) - (cl 1)) / ((p3.1 13 10 1)).toInt64)
  if (lg_cmp ((p3.1 13 37 (v1).toNatClampNeg)).toInt64 x4) < 0 then (
    let x11 : Int64 := ((p3.1 13 37 (v1).toNatClampNeg)).toInt64
    let p12 : PM := pI p3 13 37 (v1).toNatClampNeg ((p3.1 13 37 (v1).toNatClampNeg) - (x11).toInt32)
    let p13 : PM := pJ p12 14 1 8 ((p12.2.1 14 1 8) - (x11 * ((p12.1 13 10 1)).toInt64))
    let p14 : PM := F314 p13 (cn 2) (x11 * ((p13.1 13 10 1)).toInt64) v1
    let x15 : Int64 := (F315 p14 ((p14.1 13 38 (v1).toNatClampNeg)).toInt64)
    let p16 : PM := pI p14 13 38 (v1).toNatClampNeg ((p14.1 13 38 (v1).toNatClampNeg) - (x15).toInt32)
    let p17 : PM := F314 p16 (cn 3) x15 v1
    kv159 p17 v1 v2)
  else (
    let p5 : PM := pI p3 13 37 (v1).toNatClampNeg ((p3.1 13 37 (v1).toNatClampNeg) - (x4).toInt32)
    let p6 : PM := pJ p5 14 1 8 ((p5.2.1 14 1 8) - (x4 * ((p5.1 13 10 1)).toInt64))
    let p7 : PM := F314 p6 (cn 2) (x4 * ((p6.1 13 10 1)).toInt64) v1
    let x8 : Int64 := (F315 p7 ((p7.1 13 38 (v1).toNatClampNeg)).toInt64)
    let p9 : PM := pI p7 13 38 (v1).toNatClampNeg ((p7.1 13 38 (v1).toNatClampNeg) - (x8).toInt32)
    let p10 : PM := F314 p9 (cn 3) x8 v1
    kv159 p10 v1 v2)
noncomputable def v12_coversAll (p : PM) (v1 : Int32) (v2 : Int32) : PM := bv12_coversAll v12_covers v12_upTo v12_coversAll_159 p v1 v2
noncomputable def bg12_coversAll (F314 : PM → Int32 → Int64 → Int32 → PM) (G314 : PM → Int32 → Int64 → Int32 → Prop) (F315 : PM → Int64 → Int64) (G315 : PM → Int64 → Prop) (kg159 : PM → Int32 → Int32 → Prop) (p : PM) (v1 : Int32) (v2 : Int32) : Prop :=
  (inb v1 4) ∧ (
  (G315 p ((p.1 13 36 (v1).toNatClampNeg)).toInt64) ∧ (
  let x1 : Int64 := (F315 p ((p.1 13 36 (v1).toNatClampNeg)).toInt64)
  (inb v1 4) ∧ (
  (inb v1 4) ∧ (
  let p2 : PM := pI p 13 36 (v1).toNatClampNeg ((p.1 13 36 (v1).toNatClampNeg) - (x1).toInt32)
  (G314 p2 (cn 1) x1 v1) ∧ (
  let p3 : PM := F314 p2 (cn 1) x1 v1
  (¬ ((p3.1 13 10 1)).toInt64 = 0) ∧ (
  let x4 : Int64 := ((((p3.2.1 12 1 69) + ((p3.1 13 10 1)).toInt64) - (cl 1)) / ((p3.1 13 10 1)).toInt64)
  (inb v1 4) ∧ (
  if (lg_cmp ((p3.1 13 37 (v1).toNatClampNeg)).toInt64 x4) < 0 then (
    (inb v1 4) ∧ (
    let x11 : Int64 := ((p3.1 13 37 (v1).toNatClampNeg)).toInt64
    (inb v1 4) ∧ (
    (inb v1 4) ∧ (
    let p12 : PM := pI p3 13 37 (v1).toNatClampNeg ((p3.1 13 37 (v1).toNatClampNeg) - (x11).toInt32)
    let p13 : PM := pJ p12 14 1 8 ((p12.2.1 14 1 8) - (x11 * ((p12.1 13 10 1)).toInt64))
    (G314 p13 (cn 2) (x11 * ((p13.1 13 10 1)).toInt64) v1) ∧ (
    let p14 : PM := F314 p13 (cn 2) (x11 * ((p13.1 13 10 1)).toInt64) v1
    (inb v1 4) ∧ (
    (G315 p14 ((p14.1 13 38 (v1).toNatClampNeg)).toInt64) ∧ (
    let x15 : Int64 := (F315 p14 ((p14.1 13 38 (v1).toNatClampNeg)).toInt64)
    (inb v1 4) ∧ (
    (inb v1 4) ∧ (
    let p16 : PM := pI p14 13 38 (v1).toNatClampNeg ((p14.1 13 38 (v1).toNatClampNeg) - (x15).toInt32)
    (G314 p16 (cn 3) x15 v1) ∧ (
    let p17 : PM := F314 p16 (cn 3) x15 v1
    kg159 p17 v1 v2))))))))))
  else (
    (inb v1 4) ∧ (
    (inb v1 4) ∧ (
    let p5 : PM := pI p3 13 37 (v1).toNatClampNeg ((p3.1 13 37 (v1).toNatClampNeg) - (x4).toInt32)
    let p6 : PM := pJ p5 14 1 8 ((p5.2.1 14 1 8) - (x4 * ((p5.1 13 10 1)).toInt64))
    (G314 p6 (cn 2) (x4 * ((p6.1 13 10 1)).toInt64) v1) ∧ (
    let p7 : PM := F314 p6 (cn 2) (x4 * ((p6.1 13 10 1)).toInt64) v1
    (inb v1 4) ∧ (
    (G315 p7 ((p7.1 13 38 (v1).toNatClampNeg)).toInt64) ∧ (
    let x8 : Int64 := (F315 p7 ((p7.1 13 38 (v1).toNatClampNeg)).toInt64)
    (inb v1 4) ∧ (
    (inb v1 4) ∧ (
    let p9 : PM := pI p7 13 38 (v1).toNatClampNeg ((p7.1 13 38 (v1).toNatClampNeg) - (x8).toInt32)
    (G314 p9 (cn 3) x8 v1) ∧ (
    let p10 : PM := F314 p9 (cn 3) x8 v1
    kg159 p10 v1 v2))))))))))))))))
noncomputable def g12_coversAll (p : PM) (v1 : Int32) (v2 : Int32) : Prop := bg12_coversAll v12_covers g12_covers v12_upTo g12_upTo g12_coversAll_159 p v1 v2
noncomputable def bv12_doCloseOut_129 (kv72 : PM → Int32 → Int32 → Int64 → Int32 → Int32 → Int32 × PM) (p : PM) (v1 : Int32) (v2 : Int32) (v3 : Int64) (v5 : Int32) (v6 : Int32) : Int32 × PM :=
  kv72 p v1 v2 v3 v5 (v6 + (cn 1))
noncomputable def v12_doCloseOut_129 (kv72 : PM → Int32 → Int32 → Int64 → Int32 → Int32 → Int32 × PM) (p : PM) (v1 : Int32) (v2 : Int32) (v3 : Int64) (v5 : Int32) (v6 : Int32) : Int32 × PM := bv12_doCloseOut_129 kv72 p v1 v2 v3 v5 v6
noncomputable def bg12_doCloseOut_129 (kg72 : PM → Int32 → Int32 → Int64 → Int32 → Int32 → Prop) (p : PM) (v1 : Int32) (v2 : Int32) (v3 : Int64) (v5 : Int32) (v6 : Int32) : Prop :=
  kg72 p v1 v2 v3 v5 (v6 + (cn 1))
noncomputable def g12_doCloseOut_129 (kg72 : PM → Int32 → Int32 → Int64 → Int32 → Int32 → Prop) (p : PM) (v1 : Int32) (v2 : Int32) (v3 : Int64) (v5 : Int32) (v6 : Int32) : Prop := bg12_doCloseOut_129 kg72 p v1 v2 v3 v5 v6
noncomputable def bv12_doCloseOut_238 (kv238 : PM → Int32 → Int32 × PM) (p : PM) (v6 : Int32) : Int32 × PM :=
  if v6 < (cn 4) then (
    let p1 : PM := pI p 15 10 (v6).toNatClampNeg (cn 0)
    kv238 p1 (v6 + (cn 1)))
  else (
    ((p.1 12 1 68), p))
noncomputable def v12_doCloseOut_238 (n : Nat) : PM → Int32 → Int32 × PM := Nat.rec (motive := fun _ => PM → Int32 → Int32 × PM) (fun p _ => (0, p)) (fun _ ih => bv12_doCloseOut_238 ih) n
theorem ev12_doCloseOut_238 (n : Nat) (p : PM) (v6 : Int32) : v12_doCloseOut_238 (n + 1) p v6 = bv12_doCloseOut_238 (v12_doCloseOut_238 n) p v6 := rfl
noncomputable def bg12_doCloseOut_238 (kg238 : PM → Int32 → Prop) (p : PM) (v6 : Int32) : Prop :=
  if v6 < (cn 4) then (
    (inb v6 4) ∧ (
    let p1 : PM := pI p 15 10 (v6).toNatClampNeg (cn 0)
    kg238 p1 (v6 + (cn 1))))
  else (
    True)
noncomputable def g12_doCloseOut_238 (n : Nat) : PM → Int32 → Prop := Nat.rec (motive := fun _ => PM → Int32 → Prop) (fun _ _ => False) (fun _ ih => bg12_doCloseOut_238 ih) n
theorem eg12_doCloseOut_238 (n : Nat) (p : PM) (v6 : Int32) : g12_doCloseOut_238 (n + 1) p v6 = bg12_doCloseOut_238 (g12_doCloseOut_238 n) p v6 := rfl
noncomputable def bv12_doCloseOut_180 (F317 : PM → Int32 → Int32 → PM) (kv238 : PM → Int32 → Int32 × PM) (p : PM) (v1 : Int32) (v2 : Int32) : Int32 × PM :=
  let p1 : PM := pI p 12 1 68 (cn 0)
  if (lg_cmp (p1.2.1 14 1 (((cn 2) * v1)).toNatClampNeg) (cl 0)) < 0 then (
    let p6 : PM := pJ p1 12 1 69 (-(p1.2.1 14 1 (((cn 2) * v1)).toNatClampNeg))
    if 0 < (lg_cmp (p6.2.1 12 1 69) (cl 0)) then (
      let p8 : PM := F317 p6 v1 v2
      let p9 : PM := pI p8 12 1 57 (cn (-1))
      kv238 p9 (cn 0))
    else (
      let p7 : PM := pI p6 12 1 57 (cn (-1))
      kv238 p7 (cn 0)))
  else (
    let p2 : PM := pJ p1 12 1 69 (cl 0)
    if 0 < (lg_cmp (p2.2.1 12 1 69) (cl 0)) then (
      let p4 : PM := F317 p2 v1 v2
      let p5 : PM := pI p4 12 1 57 (cn (-1))
      kv238 p5 (cn 0))
    else (
      let p3 : PM := pI p2 12 1 57 (cn (-1))
      kv238 p3 (cn 0)))
noncomputable def v12_doCloseOut_180 (p : PM) (v1 : Int32) (v2 : Int32) : Int32 × PM := bv12_doCloseOut_180 v12_coversAll (v12_doCloseOut_238 FU) p v1 v2
noncomputable def bg12_doCloseOut_180 (F317 : PM → Int32 → Int32 → PM) (G317 : PM → Int32 → Int32 → Prop) (kg238 : PM → Int32 → Prop) (p : PM) (v1 : Int32) (v2 : Int32) : Prop :=
  let p1 : PM := pI p 12 1 68 (cn 0)
  (inb ((cn 2) * v1) 9) ∧ (
  if (lg_cmp (p1.2.1 14 1 (((cn 2) * v1)).toNatClampNeg) (cl 0)) < 0 then (
    (inb ((cn 2) * v1) 9) ∧ (
    let p6 : PM := pJ p1 12 1 69 (-(p1.2.1 14 1 (((cn 2) * v1)).toNatClampNeg))
    if 0 < (lg_cmp (p6.2.1 12 1 69) (cl 0)) then (
      (G317 p6 v1 v2) ∧ (
      let p8 : PM := F317 p6 v1 v2
      let p9 : PM := pI p8 12 1 57 (cn (-1))
      kg238 p9 (cn 0)))
    else (
      let p7 : PM := pI p6 12 1 57 (cn (-1))
      kg238 p7 (cn 0))))
  else (
    let p2 : PM := pJ p1 12 1 69 (cl 0)
    if 0 < (lg_cmp (p2.2.1 12 1 69) (cl 0)) then (
      (G317 p2 v1 v2) ∧ (
      let p4 : PM := F317 p2 v1 v2
      let p5 : PM := pI p4 12 1 57 (cn (-1))
      kg238 p5 (cn 0)))
    else (
      let p3 : PM := pI p2 12 1 57 (cn (-1))
      kg238 p3 (cn 0))))
noncomputable def g12_doCloseOut_180 (p : PM) (v1 : Int32) (v2 : Int32) : Prop := bg12_doCloseOut_180 v12_coversAll g12_coversAll (g12_doCloseOut_238 FU) p v1 v2
noncomputable def bv12_doCloseOut_72 (F275 : PM → Int32 → Int32 → Int64) (kv129 : PM → Int32 → Int32 → Int64 → Int32 → Int32 → Int32 × PM) (kv180 : PM → Int32 → Int32 → Int32 × PM) (p : PM) (v1 : Int32) (v2 : Int32) (v3 : Int64) (v5 : Int32) (v6 : Int32) : Int32 × PM :=
  if v6 < (cn 4) then (
    let p4 : PM := pI p 13 1 ((((cn 4) * v5) + v6)).toNatClampNeg ((p.1 13 1 ((((cn 4) * v5) + v6)).toNatClampNeg) + ((F275 p v1 v6)).toInt32)
    let p5 : PM := pI p4 13 1 ((((cn 8) * v1) + v6)).toNatClampNeg (cn 0)
    let p6 : PM := pI p5 13 1 (((((cn 8) * v1) + (cn 4)) + v6)).toNatClampNeg (cn 0)
    kv129 p6 v1 v2 v3 v5 v6)
  else (
    let p1 : PM := pJ p 14 1 (v5).toNatClampNeg ((p.2.1 14 1 (v5).toNatClampNeg) - v3)
    let p2 : PM := pJ p1 14 1 (((cn 2) * v1)).toNatClampNeg ((p1.2.1 14 1 (((cn 2) * v1)).toNatClampNeg) + ((p1.2.1 14 1 ((((cn 2) * v1) + (cn 1))).toNatClampNeg) + v3))
    let p3 : PM := pJ p2 14 1 ((((cn 2) * v1) + (cn 1))).toNatClampNeg (cl 0)
    kv180 p3 v1 v2)
noncomputable def v12_doCloseOut_72 (n : Nat) : PM → Int32 → Int32 → Int64 → Int32 → Int32 → Int32 × PM := Nat.rec (motive := fun _ => PM → Int32 → Int32 → Int64 → Int32 → Int32 → Int32 × PM) (fun p _ _ _ _ _ => (0, p)) (fun _ ih => bv12_doCloseOut_72 v12_net (v12_doCloseOut_129 ih) v12_doCloseOut_180) n
theorem ev12_doCloseOut_72 (n : Nat) (p : PM) (v1 : Int32) (v2 : Int32) (v3 : Int64) (v5 : Int32) (v6 : Int32) : v12_doCloseOut_72 (n + 1) p v1 v2 v3 v5 v6 = bv12_doCloseOut_72 v12_net (v12_doCloseOut_129 (v12_doCloseOut_72 n)) v12_doCloseOut_180 p v1 v2 v3 v5 v6 := rfl
noncomputable def bg12_doCloseOut_72 (F275 : PM → Int32 → Int32 → Int64) (G275 : PM → Int32 → Int32 → Prop) (kg129 : PM → Int32 → Int32 → Int64 → Int32 → Int32 → Prop) (kg180 : PM → Int32 → Int32 → Prop) (p : PM) (v1 : Int32) (v2 : Int32) (v3 : Int64) (v5 : Int32) (v6 : Int32) : Prop :=
  if v6 < (cn 4) then (
    (inb (((cn 4) * v5) + v6) 36) ∧ (
    (G275 p v1 v6) ∧ (
    (inb (((cn 4) * v5) + v6) 36) ∧ (
    let p4 : PM := pI p 13 1 ((((cn 4) * v5) + v6)).toNatClampNeg ((p.1 13 1 ((((cn 4) * v5) + v6)).toNatClampNeg) + ((F275 p v1 v6)).toInt32)
    (inb (((cn 8) * v1) + v6) 36) ∧ (
    let p5 : PM := pI p4 13 1 ((((cn 8) * v1) + v6)).toNatClampNeg (cn 0)
    (inb ((((cn 8) * v1) + (cn 4)) + v6) 36) ∧ (
    let p6 : PM := pI p5 13 1 (((((cn 8) * v1) + (cn 4)) + v6)).toNatClampNeg (cn 0)
    kg129 p6 v1 v2 v3 v5 v6))))))
  else (
    (inb v5 9) ∧ (
    (inb v5 9) ∧ (
    let p1 : PM := pJ p 14 1 (v5).toNatClampNeg ((p.2.1 14 1 (v5).toNatClampNeg) - v3)
    (inb ((cn 2) * v1) 9) ∧ (
    (inb (((cn 2) * v1) + (cn 1)) 9) ∧ (
    (inb ((cn 2) * v1) 9) ∧ (
    let p2 : PM := pJ p1 14 1 (((cn 2) * v1)).toNatClampNeg ((p1.2.1 14 1 (((cn 2) * v1)).toNatClampNeg) + ((p1.2.1 14 1 ((((cn 2) * v1) + (cn 1))).toNatClampNeg) + v3))
    (inb (((cn 2) * v1) + (cn 1)) 9) ∧ (
    let p3 : PM := pJ p2 14 1 ((((cn 2) * v1) + (cn 1))).toNatClampNeg (cl 0)
    kg180 p3 v1 v2)))))))
noncomputable def g12_doCloseOut_72 (n : Nat) : PM → Int32 → Int32 → Int64 → Int32 → Int32 → Prop := Nat.rec (motive := fun _ => PM → Int32 → Int32 → Int64 → Int32 → Int32 → Prop) (fun _ _ _ _ _ _ => False) (fun _ ih => bg12_doCloseOut_72 v12_net g12_net (g12_doCloseOut_129 ih) g12_doCloseOut_180) n
theorem eg12_doCloseOut_72 (n : Nat) (p : PM) (v1 : Int32) (v2 : Int32) (v3 : Int64) (v5 : Int32) (v6 : Int32) : g12_doCloseOut_72 (n + 1) p v1 v2 v3 v5 v6 = bg12_doCloseOut_72 v12_net g12_net (g12_doCloseOut_129 (g12_doCloseOut_72 n)) g12_doCloseOut_180 p v1 v2 v3 v5 v6 := rfl
noncomputable def bv12_doCloseOut (F277 : PM → Int32 → Int64) (F313 : PM → Int32) (kv72 : PM → Int32 → Int32 → Int64 → Int32 → Int32 → Int32 × PM) (p : PM) : Int32 × PM :=
  if (p.1 12 1 57) < 0 then (
    let p1 : PM := pI p 12 1 0 (cn 1)
    if (p1.1 12 1 0) = 0 then (
      if (F313 p1) < 0 then (
        let x4 : Int64 := (F277 p1 (p1.1 12 1 57))
        if (F313 p1) < 0 then (
          kv72 p1 (p1.1 12 1 57) (F313 p1) x4 (cn 8) (cn 0))
        else (
          let x5 : Int32 := ((cn 2) * (F313 p1))
          kv72 p1 (p1.1 12 1 57) (F313 p1) x4 x5 (cn 0)))
      else (
        let x2 : Int64 := ((p1.1 13 39 ((F313 p1)).toNatClampNeg)).toInt64
        if (F313 p1) < 0 then (
          kv72 p1 (p1.1 12 1 57) (F313 p1) x2 (cn 8) (cn 0))
        else (
          let x3 : Int32 := ((cn 2) * (F313 p1))
          kv72 p1 (p1.1 12 1 57) (F313 p1) x2 x3 (cn 0))))
    else (
      ((cn 0), p1)))
  else (
    let p6 : PM := pI p 12 1 0 (cn 0)
    if (p6.1 12 1 0) = 0 then (
      if (F313 p6) < 0 then (
        let x9 : Int64 := (F277 p6 (p6.1 12 1 57))
        if (F313 p6) < 0 then (
          kv72 p6 (p6.1 12 1 57) (F313 p6) x9 (cn 8) (cn 0))
        else (
          let x10 : Int32 := ((cn 2) * (F313 p6))
          kv72 p6 (p6.1 12 1 57) (F313 p6) x9 x10 (cn 0)))
      else (
        let x7 : Int64 := ((p6.1 13 39 ((F313 p6)).toNatClampNeg)).toInt64
        if (F313 p6) < 0 then (
          kv72 p6 (p6.1 12 1 57) (F313 p6) x7 (cn 8) (cn 0))
        else (
          let x8 : Int32 := ((cn 2) * (F313 p6))
          kv72 p6 (p6.1 12 1 57) (F313 p6) x7 x8 (cn 0))))
    else (
      ((cn 0), p6)))
noncomputable def v12_doCloseOut (p : PM) : Int32 × PM := bv12_doCloseOut v12_worth v12_winner (v12_doCloseOut_72 FU) p
noncomputable def bg12_doCloseOut (F277 : PM → Int32 → Int64) (G277 : PM → Int32 → Prop) (F313 : PM → Int32) (G313 : PM → Prop) (kg72 : PM → Int32 → Int32 → Int64 → Int32 → Int32 → Prop) (p : PM) : Prop :=
  if (p.1 12 1 57) < 0 then (
    let p1 : PM := pI p 12 1 0 (cn 1)
    if (p1.1 12 1 0) = 0 then (
      (G313 p1) ∧ (
      if (F313 p1) < 0 then (
        (G277 p1 (p1.1 12 1 57)) ∧ (
        let x4 : Int64 := (F277 p1 (p1.1 12 1 57))
        if (F313 p1) < 0 then (
          kg72 p1 (p1.1 12 1 57) (F313 p1) x4 (cn 8) (cn 0))
        else (
          let x5 : Int32 := ((cn 2) * (F313 p1))
          kg72 p1 (p1.1 12 1 57) (F313 p1) x4 x5 (cn 0))))
      else (
        (inb (F313 p1) 4) ∧ (
        let x2 : Int64 := ((p1.1 13 39 ((F313 p1)).toNatClampNeg)).toInt64
        if (F313 p1) < 0 then (
          kg72 p1 (p1.1 12 1 57) (F313 p1) x2 (cn 8) (cn 0))
        else (
          let x3 : Int32 := ((cn 2) * (F313 p1))
          kg72 p1 (p1.1 12 1 57) (F313 p1) x2 x3 (cn 0))))))
    else (
      True))
  else (
    let p6 : PM := pI p 12 1 0 (cn 0)
    if (p6.1 12 1 0) = 0 then (
      (G313 p6) ∧ (
      if (F313 p6) < 0 then (
        (G277 p6 (p6.1 12 1 57)) ∧ (
        let x9 : Int64 := (F277 p6 (p6.1 12 1 57))
        if (F313 p6) < 0 then (
          kg72 p6 (p6.1 12 1 57) (F313 p6) x9 (cn 8) (cn 0))
        else (
          let x10 : Int32 := ((cn 2) * (F313 p6))
          kg72 p6 (p6.1 12 1 57) (F313 p6) x9 x10 (cn 0))))
      else (
        (inb (F313 p6) 4) ∧ (
        let x7 : Int64 := ((p6.1 13 39 ((F313 p6)).toNatClampNeg)).toInt64
        if (F313 p6) < 0 then (
          kg72 p6 (p6.1 12 1 57) (F313 p6) x7 (cn 8) (cn 0))
        else (
          let x8 : Int32 := ((cn 2) * (F313 p6))
          kg72 p6 (p6.1 12 1 57) (F313 p6) x7 x8 (cn 0))))))
    else (
      True))
noncomputable def g12_doCloseOut (p : PM) : Prop := bg12_doCloseOut v12_worth g12_worth v12_winner g12_winner (g12_doCloseOut_72 FU) p
noncomputable def bv12_doesMore_116 (F215 : PM → Int32 → Int32 → Int32 → Int32) (F292 : PM → Nat → Int32 → Int32 → Int32 → Int32 → Int32 × PM) (p : PM) (v4 : Int32) (s0 : Int32) : Int64 × PM :=
  let r1 : Int32 × PM := F292 p 35 s0 (cn 0) v4 (F215 p v4 (cn (-99)) (cn 99))
  ((r1.1).toInt64, r1.2)
noncomputable def v12_doesMore_116 (p : PM) (v4 : Int32) (s0 : Int32) : Int64 × PM := bv12_doesMore_116 v12_in v12_puts p v4 s0
noncomputable def bg12_doesMore_116 (F215 : PM → Int32 → Int32 → Int32 → Int32) (G215 : PM → Int32 → Int32 → Int32 → Prop) (F292 : PM → Nat → Int32 → Int32 → Int32 → Int32 → Int32 × PM) (G292 : PM → Nat → Int32 → Int32 → Int32 → Int32 → Prop) (p : PM) (v4 : Int32) (s0 : Int32) : Prop :=
  (G215 p v4 (cn (-99)) (cn 99)) ∧ (
  (G292 p 35 s0 (cn 0) v4 (F215 p v4 (cn (-99)) (cn 99))) ∧ (
  let r1 : Int32 × PM := F292 p 35 s0 (cn 0) v4 (F215 p v4 (cn (-99)) (cn 99))
  True))
noncomputable def g12_doesMore_116 (p : PM) (v4 : Int32) (s0 : Int32) : Prop := bg12_doesMore_116 v12_in g12_in v12_puts g12_puts p v4 s0
noncomputable def bv12_doesMore_149 (p : PM) (v2 : Int32) (s0 : Int32) : Int64 × PM :=
  let p1 : PM := pI p 12 1 0 s0
  if (p1.1 12 1 0) = 0 then (
    let p3 : PM := pI p1 12 1 50 v2
    if (p3.1 12 1 0) = 0 then (
      (((p1.1 12 1 50)).toInt64, p3))
    else (
      ((cl 0), p3)))
  else (
    let p2 : PM := pI p1 12 1 50 (p1.1 12 1 50)
    if (p2.1 12 1 0) = 0 then (
      (((p1.1 12 1 50)).toInt64, p2))
    else (
      ((cl 0), p2)))
noncomputable def v12_doesMore_149 (p : PM) (v2 : Int32) (s0 : Int32) : Int64 × PM := bv12_doesMore_149 p v2 s0
noncomputable def bg12_doesMore_149 (p : PM) (v2 : Int32) (s0 : Int32) : Prop :=
  let p1 : PM := pI p 12 1 0 s0
  if (p1.1 12 1 0) = 0 then (
    let p3 : PM := pI p1 12 1 50 v2
    if (p3.1 12 1 0) = 0 then (
      True)
    else (
      True))
  else (
    let p2 : PM := pI p1 12 1 50 (p1.1 12 1 50)
    if (p2.1 12 1 0) = 0 then (
      True)
    else (
      True))
noncomputable def g12_doesMore_149 (p : PM) (v2 : Int32) (s0 : Int32) : Prop := bg12_doesMore_149 p v2 s0
noncomputable def bv12_doesMore (F215 : PM → Int32 → Int32 → Int32 → Int32) (F292 : PM → Nat → Int32 → Int32 → Int32 → Int32 → Int32 × PM) (F301 : PM → Int32 → Int32 → Int32 → Int32 → Int32 × PM) (F302 : PM → Int32 → Int32 → Int32 → Int32 × PM) (F305 : PM → Int32 → Int32 → Int32 → Int32 × PM) (F308 : PM → Int32 → Int32 → Int32 → Int64 × PM) (F309 : PM → Int32 → Int32 → Int32 × PM) (F310 : PM → Int32 → Int32 × PM) (F311 : PM → Int32 → Int32 → Int32 × PM) (F316 : PM → Int32 × PM) (kv116 : PM → Int32 → Int32 → Int64 × PM) (kv149 : PM → Int32 → Int32 → Int64 × PM) (p : PM) (v1 : Int32) (v2 : Int32) (v3 : Int32) (v4 : Int32) (v5 : Int32) : Int64 × PM :=
  if v1 = (cn 17) then (
    let r9 : Int32 × PM := F301 p v2 v3 v4 v5
    ((r9.1).toInt64, r9.2))
  else (
    if v1 = (cn 18) then (
      let r8 : Int32 × PM := F302 p v2 v3 v4
      ((r8.1).toInt64, r8.2))
    else (
      if v1 = (cn 19) then (
        let r7 : Int32 × PM := F305 p v2 v3 v4
        ((r7.1).toInt64, r7.2))
      else (
        if v1 = (cn 20) then (
          if (F215 p v2 (cn 0) (cn 3)) = 0 then (
            kv116 p v4 (((cn 4) * v2) + v3))
          else (
            if (F215 p v3 (cn 0) (cn 3)) = 0 then (
              kv116 p v4 (((cn 4) * v2) + v3))
            else (
              let r6 : Int32 × PM := F292 p 35 (((cn 4) * v2) + v3) (cn 1) v4 (F215 p v4 (cn (-99)) (cn 99))
              ((r6.1).toInt64, r6.2))))
        else (
          if v1 = (cn 21) then (
            if (F215 p v2 (cn 0) (cn 100)) = 0 then (
              kv149 p v2 (cn 1))
            else (
              kv149 p v2 (cn 0)))
          else (
            if v1 = (cn 22) then (
              let r5 : Int64 × PM := F308 p v2 v3 v4
              (r5.1, r5.2))
            else (
              if v1 = (cn 23) then (
                let r4 : Int32 × PM := F309 p v2 v3
                ((r4.1).toInt64, r4.2))
              else (
                if v1 = (cn 24) then (
                  let r3 : Int32 × PM := F310 p v2
                  ((r3.1).toInt64, r3.2))
                else (
                  if v1 = (cn 25) then (
                    let r2 : Int32 × PM := F311 p v2 v3
                    ((r2.1).toInt64, r2.2))
                  else (
                    let r1 : Int32 × PM := F316 p
                    ((r1.1).toInt64, r1.2))))))))))
noncomputable def v12_doesMore (p : PM) (v1 : Int32) (v2 : Int32) (v3 : Int32) (v4 : Int32) (v5 : Int32) : Int64 × PM := bv12_doesMore v12_in v12_puts v12_doAllot v12_doExercise v12_doConvert v12_doPay v12_doFund v12_doFail v12_doBid v12_doCloseOut v12_doesMore_116 v12_doesMore_149 p v1 v2 v3 v4 v5
noncomputable def bg12_doesMore (F215 : PM → Int32 → Int32 → Int32 → Int32) (G215 : PM → Int32 → Int32 → Int32 → Prop) (F292 : PM → Nat → Int32 → Int32 → Int32 → Int32 → Int32 × PM) (G292 : PM → Nat → Int32 → Int32 → Int32 → Int32 → Prop) (F301 : PM → Int32 → Int32 → Int32 → Int32 → Int32 × PM) (G301 : PM → Int32 → Int32 → Int32 → Int32 → Prop) (F302 : PM → Int32 → Int32 → Int32 → Int32 × PM) (G302 : PM → Int32 → Int32 → Int32 → Prop) (F305 : PM → Int32 → Int32 → Int32 → Int32 × PM) (G305 : PM → Int32 → Int32 → Int32 → Prop) (F308 : PM → Int32 → Int32 → Int32 → Int64 × PM) (G308 : PM → Int32 → Int32 → Int32 → Prop) (F309 : PM → Int32 → Int32 → Int32 × PM) (G309 : PM → Int32 → Int32 → Prop) (F310 : PM → Int32 → Int32 × PM) (G310 : PM → Int32 → Prop) (F311 : PM → Int32 → Int32 → Int32 × PM) (G311 : PM → Int32 → Int32 → Prop) (F316 : PM → Int32 × PM) (G316 : PM → Prop) (kg116 : PM → Int32 → Int32 → Prop) (kg149 : PM → Int32 → Int32 → Prop) (p : PM) (v1 : Int32) (v2 : Int32) (v3 : Int32) (v4 : Int32) (v5 : Int32) : Prop :=
  if v1 = (cn 17) then (
    (G301 p v2 v3 v4 v5) ∧ (
    let r9 : Int32 × PM := F301 p v2 v3 v4 v5
    True))
  else (
    if v1 = (cn 18) then (
      (G302 p v2 v3 v4) ∧ (
      let r8 : Int32 × PM := F302 p v2 v3 v4
      True))
    else (
      if v1 = (cn 19) then (
        (G305 p v2 v3 v4) ∧ (
        let r7 : Int32 × PM := F305 p v2 v3 v4
        True))
      else (
        if v1 = (cn 20) then (
          (G215 p v2 (cn 0) (cn 3)) ∧ (
          if (F215 p v2 (cn 0) (cn 3)) = 0 then (
            kg116 p v4 (((cn 4) * v2) + v3))
          else (
            (G215 p v3 (cn 0) (cn 3)) ∧ (
            if (F215 p v3 (cn 0) (cn 3)) = 0 then (
              kg116 p v4 (((cn 4) * v2) + v3))
            else (
              (G215 p v4 (cn (-99)) (cn 99)) ∧ (
              (G292 p 35 (((cn 4) * v2) + v3) (cn 1) v4 (F215 p v4 (cn (-99)) (cn 99))) ∧ (
              let r6 : Int32 × PM := F292 p 35 (((cn 4) * v2) + v3) (cn 1) v4 (F215 p v4 (cn (-99)) (cn 99))
              True)))))))
        else (
          if v1 = (cn 21) then (
            (G215 p v2 (cn 0) (cn 100)) ∧ (
            if (F215 p v2 (cn 0) (cn 100)) = 0 then (
              kg149 p v2 (cn 1))
            else (
              kg149 p v2 (cn 0))))
          else (
            if v1 = (cn 22) then (
              (G308 p v2 v3 v4) ∧ (
              let r5 : Int64 × PM := F308 p v2 v3 v4
              True))
            else (
              if v1 = (cn 23) then (
                (G309 p v2 v3) ∧ (
                let r4 : Int32 × PM := F309 p v2 v3
                True))
              else (
                if v1 = (cn 24) then (
                  (G310 p v2) ∧ (
                  let r3 : Int32 × PM := F310 p v2
                  True))
                else (
                  if v1 = (cn 25) then (
                    (G311 p v2 v3) ∧ (
                    let r2 : Int32 × PM := F311 p v2 v3
                    True))
                  else (
                    (G316 p) ∧ (
                    let r1 : Int32 × PM := F316 p
                    True))))))))))
noncomputable def g12_doesMore (p : PM) (v1 : Int32) (v2 : Int32) (v3 : Int32) (v4 : Int32) (v5 : Int32) : Prop := bg12_doesMore v12_in g12_in v12_puts g12_puts v12_doAllot g12_doAllot v12_doExercise g12_doExercise v12_doConvert g12_doConvert v12_doPay g12_doPay v12_doFund g12_doFund v12_doFail g12_doFail v12_doBid g12_doBid v12_doCloseOut g12_doCloseOut g12_doesMore_116 g12_doesMore_149 p v1 v2 v3 v4 v5
noncomputable def bv12_does_266 (F215 : PM → Int32 → Int32 → Int32 → Int32) (F292 : PM → Nat → Int32 → Int32 → Int32 → Int32 → Int32 × PM) (p : PM) (v4 : Int32) (s0 : Int32) (s1 : Int32) : Int64 × PM :=
  let r1 : Int32 × PM := F292 p 2 s1 s0 v4 (F215 p v4 (cn 0) (cn 999))
  ((r1.1).toInt64, r1.2)
