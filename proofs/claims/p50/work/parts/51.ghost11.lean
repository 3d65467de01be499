/-! the reference as functions, a ghost beside the class (text of wip/whole/lift.py, chosen by wip/p50/ghost.py) -/
noncomputable def v12_does_266 (p : PM) (v4 : Int32) (s0 : Int32) (s1 : Int32) : Int64 × PM := bv12_does_266 v12_in v12_puts p v4 s0 s1
noncomputable def bg12_does_266 (F215 : PM → Int32 → Int32 → Int32 → Int32) (G215 : PM → Int32 → Int32 → Int32 → Prop) (F292 : PM → Nat → Int32 → Int32 → Int32 → Int32 → Int32 × PM) (G292 : PM → Nat → Int32 → Int32 → Int32 → Int32 → Prop) (p : PM) (v4 : Int32) (s0 : Int32) (s1 : Int32) : Prop :=
  (G215 p v4 (cn 0) (cn 999)) ∧ (
  (G292 p 2 s1 s0 v4 (F215 p v4 (cn 0) (cn 999))) ∧ (
  let r1 : Int32 × PM := F292 p 2 s1 s0 v4 (F215 p v4 (cn 0) (cn 999))
  True))
noncomputable def g12_does_266 (p : PM) (v4 : Int32) (s0 : Int32) (s1 : Int32) : Prop := bg12_does_266 v12_in g12_in v12_puts g12_puts p v4 s0 s1
noncomputable def bv12_does_265 (kv266 : PM → Int32 → Int32 → Int32 → Int64 × PM) (p : PM) (v4 : Int32) (s0 : Int32) : Int64 × PM :=
  kv266 p v4 (cn 0) s0
noncomputable def v12_does_265 (p : PM) (v4 : Int32) (s0 : Int32) : Int64 × PM := bv12_does_265 v12_does_266 p v4 s0
noncomputable def bg12_does_265 (kg266 : PM → Int32 → Int32 → Int32 → Prop) (p : PM) (v4 : Int32) (s0 : Int32) : Prop :=
  kg266 p v4 (cn 0) s0
noncomputable def g12_does_265 (p : PM) (v4 : Int32) (s0 : Int32) : Prop := bg12_does_265 g12_does_266 p v4 s0
noncomputable def bv12_does_334 (F299 : PM → Int32 → Int32 → Int32 → Int32 × PM) (p : PM) (v4 : Int32) (s0 : Int32) (s1 : Int32) : Int64 × PM :=
  let r1 : Int32 × PM := F299 p s1 s0 v4
  ((r1.1).toInt64, r1.2)
noncomputable def v12_does_334 (p : PM) (v4 : Int32) (s0 : Int32) (s1 : Int32) : Int64 × PM := bv12_does_334 v12_doGiveUp p v4 s0 s1
noncomputable def bg12_does_334 (F299 : PM → Int32 → Int32 → Int32 → Int32 × PM) (G299 : PM → Int32 → Int32 → Int32 → Prop) (p : PM) (v4 : Int32) (s0 : Int32) (s1 : Int32) : Prop :=
  (G299 p s1 s0 v4) ∧ (
  let r1 : Int32 × PM := F299 p s1 s0 v4
  True)
noncomputable def g12_does_334 (p : PM) (v4 : Int32) (s0 : Int32) (s1 : Int32) : Prop := bg12_does_334 v12_doGiveUp g12_doGiveUp p v4 s0 s1
noncomputable def bv12_does (F215 : PM → Int32 → Int32 → Int32 → Int32) (F280 : PM → Int32 → Int32) (F284 : PM → Int32 → Int32 → Int32 → Int32 → Int32 → Int32 → Int32 × PM) (F285 : PM → Int32 → Int32 → Int32 → Int32 × PM) (F286 : PM → Int32 → Int32 → Int32 → Int32 → Int32 → Int32 × PM) (F287 : PM → Int32 → Int32 → Int32 → Int32 → Int32 → Int32 × PM) (F288 : PM → Int32 → Int32 → Int32 → Int32 → Int32 → Int32 × PM) (F289 : PM → Int32 → Int32 → Int32 → Int32 → Int32 → Int32 × PM) (F290 : PM → Int32 → Int32 × PM) (F291 : PM → Int32 → Int32 → Int32 → Int32 → Int32 × PM) (F292 : PM → Nat → Int32 → Int32 → Int32 → Int32 → Int32 × PM) (F293 : PM → Int32 → Int32 → Int32 → Int32 → Int32 × PM) (F294 : PM → Int32 → Int32 × PM) (F295 : PM → Int32 × PM) (F297 : PM → Int32 → Int32 × PM) (F298 : PM → Int32 → Int32 → Int32 × PM) (F320 : PM → Int32 → Int32 → Int32 → Int32 → Int32 → Int64 × PM) (kv265 : PM → Int32 → Int32 → Int64 × PM) (kv266 : PM → Int32 → Int32 → Int32 → Int64 × PM) (kv334 : PM → Int32 → Int32 → Int32 → Int64 × PM) (p : PM) (v1 : Int32) (v2 : Int32) (v3 : Int32) (v4 : Int32) (v5 : Int32) (v6 : Int32) (v7 : Int32) : Int64 × PM :=
  if v1 = (cn 0) then (
    let r16 : Int32 × PM := F284 p v2 v3 v4 v5 v6 v7
    ((r16.1).toInt64, r16.2))
  else (
    if v1 = (cn 1) then (
      let r15 : Int32 × PM := F285 p v2 v3 v4
      ((r15.1).toInt64, r15.2))
    else (
      if v1 = (cn 2) then (
        let r14 : Int32 × PM := F286 p v2 v3 v4 v5 v6
        ((r14.1).toInt64, r14.2))
      else (
        if v1 = (cn 3) then (
          let r13 : Int32 × PM := F287 p v2 v3 v4 v5 v6
          ((r13.1).toInt64, r13.2))
        else (
          if v1 = (cn 4) then (
            let r12 : Int32 × PM := F288 p v2 v3 v4 v5 v6
            ((r12.1).toInt64, r12.2))
          else (
            if v1 = (cn 5) then (
              let r11 : Int32 × PM := F289 p v2 v3 v4 v5 v6
              ((r11.1).toInt64, r11.2))
            else (
              if v1 = (cn 6) then (
                let r10 : Int32 × PM := F290 p v2
                ((r10.1).toInt64, r10.2))
              else (
                if v1 = (cn 7) then (
                  let r9 : Int32 × PM := F291 p v2 v3 v4 v5
                  ((r9.1).toInt64, r9.2))
                else (
                  if v1 = (cn 8) then (
                    let r8 : Int32 × PM := F292 p 9 v2 (F215 p v2 (cn 0) (cn 5)) v3 (F215 p v3 (cn 0) (cn 9999))
                    ((r8.1).toInt64, r8.2))
                  else (
                    if v1 = (cn 9) then (
                      let r7 : Int32 × PM := F292 p 3 v2 (F280 p v2) v3 (F215 p v3 (cn 0) (cn 999))
                      ((r7.1).toInt64, r7.2))
                    else (
                      if v1 = (cn 10) then (
                        if (F280 p v2) = 0 then (
                          kv265 p v4 (((cn 4) * v2) + v3))
                        else (
                          if (F215 p v3 (cn 0) (cn 3)) = 0 then (
                            kv265 p v4 (((cn 4) * v2) + v3))
                          else (
                            kv266 p v4 (cn 1) (((cn 4) * v2) + v3))))
                      else (
                        if v1 = (cn 11) then (
                          let r6 : Int32 × PM := F293 p v2 v3 v4 v5
                          ((r6.1).toInt64, r6.2))
                        else (
                          if v1 = (cn 12) then (
                            let r5 : Int32 × PM := F294 p v2
                            ((r5.1).toInt64, r5.2))
                          else (
                            if v1 = (cn 13) then (
                              let r4 : Int32 × PM := F295 p
                              ((r4.1).toInt64, r4.2))
                            else (
                              if v1 = (cn 14) then (
                                let r3 : Int32 × PM := F297 p v2
                                ((r3.1).toInt64, r3.2))
                              else (
                                if v1 = (cn 15) then (
                                  let r2 : Int32 × PM := F298 p v2 v3
                                  ((r2.1).toInt64, r2.2))
                                else (
                                  if v1 = (cn 16) then (
                                    if v3 = (cn 1) then (
                                      kv334 p v4 (cn 1) v2)
                                    else (
                                      kv334 p v4 (cn 0) v2))
                                  else (
                                    let r1 : Int64 × PM := F320 p v1 v2 v3 v4 v5
                                    (r1.1, r1.2))))))))))))))))))
noncomputable def v12_does (p : PM) (v1 : Int32) (v2 : Int32) (v3 : Int32) (v4 : Int32) (v5 : Int32) (v6 : Int32) (v7 : Int32) : Int64 × PM := bv12_does v12_in v12_isAccount v12_doLimit v12_doMarket v12_doIceberg v12_doPeg v12_doStop v12_doQuote v12_doCancel v12_doRule v12_puts v12_doAuction v12_doPass v12_doEndDay v12_doBust v12_doAdjust v12_doesMore v12_does_265 v12_does_266 v12_does_334 p v1 v2 v3 v4 v5 v6 v7
noncomputable def bg12_does (F215 : PM → Int32 → Int32 → Int32 → Int32) (G215 : PM → Int32 → Int32 → Int32 → Prop) (F280 : PM → Int32 → Int32) (G280 : PM → Int32 → Prop) (F284 : PM → Int32 → Int32 → Int32 → Int32 → Int32 → Int32 → Int32 × PM) (G284 : PM → Int32 → Int32 → Int32 → Int32 → Int32 → Int32 → Prop) (F285 : PM → Int32 → Int32 → Int32 → Int32 × PM) (G285 : PM → Int32 → Int32 → Int32 → Prop) (F286 : PM → Int32 → Int32 → Int32 → Int32 → Int32 → Int32 × PM) (G286 : PM → Int32 → Int32 → Int32 → Int32 → Int32 → Prop) (F287 : PM → Int32 → Int32 → Int32 → Int32 → Int32 → Int32 × PM) (G287 : PM → Int32 → Int32 → Int32 → Int32 → Int32 → Prop) (F288 : PM → Int32 → Int32 → Int32 → Int32 → Int32 → Int32 × PM) (G288 : PM → Int32 → Int32 → Int32 → Int32 → Int32 → Prop) (F289 : PM → Int32 → Int32 → Int32 → Int32 → Int32 → Int32 × PM) (G289 : PM → Int32 → Int32 → Int32 → Int32 → Int32 → Prop) (F290 : PM → Int32 → Int32 × PM) (G290 : PM → Int32 → Prop) (F291 : PM → Int32 → Int32 → Int32 → Int32 → Int32 × PM) (G291 : PM → Int32 → Int32 → Int32 → Int32 → Prop) (F292 : PM → Nat → Int32 → Int32 → Int32 → Int32 → Int32 × PM) (G292 : PM → Nat → Int32 → Int32 → Int32 → Int32 → Prop) (F293 : PM → Int32 → Int32 → Int32 → Int32 → Int32 × PM) (G293 : PM → Int32 → Int32 → Int32 → Int32 → Prop) (F294 : PM → Int32 → Int32 × PM) (G294 : PM → Int32 → Prop) (F295 : PM → Int32 × PM) (G295 : PM → Prop) (F297 : PM → Int32 → Int32 × PM) (G297 : PM → Int32 → Prop) (F298 : PM → Int32 → Int32 → Int32 × PM) (G298 : PM → Int32 → Int32 → Prop) (F320 : PM → Int32 → Int32 → Int32 → Int32 → Int32 → Int64 × PM) (G320 : PM → Int32 → Int32 → Int32 → Int32 → Int32 → Prop) (kg265 : PM → Int32 → Int32 → Prop) (kg266 : PM → Int32 → Int32 → Int32 → Prop) (kg334 : PM → Int32 → Int32 → Int32 → Prop) (p : PM) (v1 : Int32) (v2 : Int32) (v3 : Int32) (v4 : Int32) (v5 : Int32) (v6 : Int32) (v7 : Int32) : Prop :=
  if v1 = (cn 0) then (
    (G284 p v2 v3 v4 v5 v6 v7) ∧ (
    let r16 : Int32 × PM := F284 p v2 v3 v4 v5 v6 v7
    True))
  else (
    if v1 = (cn 1) then (
      (G285 p v2 v3 v4) ∧ (
      let r15 : Int32 × PM := F285 p v2 v3 v4
      True))
    else (
      if v1 = (cn 2) then (
        (G286 p v2 v3 v4 v5 v6) ∧ (
        let r14 : Int32 × PM := F286 p v2 v3 v4 v5 v6
        True))
      else (
        if v1 = (cn 3) then (
          (G287 p v2 v3 v4 v5 v6) ∧ (
          let r13 : Int32 × PM := F287 p v2 v3 v4 v5 v6
          True))
        else (
          if v1 = (cn 4) then (
            (G288 p v2 v3 v4 v5 v6) ∧ (
            let r12 : Int32 × PM := F288 p v2 v3 v4 v5 v6
            True))
          else (
            if v1 = (cn 5) then (
              (G289 p v2 v3 v4 v5 v6) ∧ (
              let r11 : Int32 × PM := F289 p v2 v3 v4 v5 v6
              True))
            else (
              if v1 = (cn 6) then (
                (G290 p v2) ∧ (
                let r10 : Int32 × PM := F290 p v2
                True))
              else (
                if v1 = (cn 7) then (
                  (G291 p v2 v3 v4 v5) ∧ (
                  let r9 : Int32 × PM := F291 p v2 v3 v4 v5
                  True))
                else (
                  if v1 = (cn 8) then (
                    (G215 p v2 (cn 0) (cn 5)) ∧ (
                    (G215 p v3 (cn 0) (cn 9999)) ∧ (
                    (G292 p 9 v2 (F215 p v2 (cn 0) (cn 5)) v3 (F215 p v3 (cn 0) (cn 9999))) ∧ (
                    let r8 : Int32 × PM := F292 p 9 v2 (F215 p v2 (cn 0) (cn 5)) v3 (F215 p v3 (cn 0) (cn 9999))
                    True))))
                  else (
                    if v1 = (cn 9) then (
                      (G280 p v2) ∧ (
                      (G215 p v3 (cn 0) (cn 999)) ∧ (
                      (G292 p 3 v2 (F280 p v2) v3 (F215 p v3 (cn 0) (cn 999))) ∧ (
                      let r7 : Int32 × PM := F292 p 3 v2 (F280 p v2) v3 (F215 p v3 (cn 0) (cn 999))
                      True))))
                    else (
                      if v1 = (cn 10) then (
                        (G280 p v2) ∧ (
                        if (F280 p v2) = 0 then (
                          kg265 p v4 (((cn 4) * v2) + v3))
                        else (
                          (G215 p v3 (cn 0) (cn 3)) ∧ (
                          if (F215 p v3 (cn 0) (cn 3)) = 0 then (
                            kg265 p v4 (((cn 4) * v2) + v3))
                          else (
                            kg266 p v4 (cn 1) (((cn 4) * v2) + v3))))))
                      else (
                        if v1 = (cn 11) then (
                          (G293 p v2 v3 v4 v5) ∧ (
                          let r6 : Int32 × PM := F293 p v2 v3 v4 v5
                          True))
                        else (
                          if v1 = (cn 12) then (
                            (G294 p v2) ∧ (
                            let r5 : Int32 × PM := F294 p v2
                            True))
                          else (
                            if v1 = (cn 13) then (
                              (G295 p) ∧ (
                              let r4 : Int32 × PM := F295 p
                              True))
                            else (
                              if v1 = (cn 14) then (
                                (G297 p v2) ∧ (
                                let r3 : Int32 × PM := F297 p v2
                                True))
                              else (
                                if v1 = (cn 15) then (
                                  (G298 p v2 v3) ∧ (
                                  let r2 : Int32 × PM := F298 p v2 v3
                                  True))
                                else (
                                  if v1 = (cn 16) then (
                                    if v3 = (cn 1) then (
                                      kg334 p v4 (cn 1) v2)
                                    else (
                                      kg334 p v4 (cn 0) v2))
                                  else (
                                    (G320 p v1 v2 v3 v4 v5) ∧ (
                                    let r1 : Int64 × PM := F320 p v1 v2 v3 v4 v5
                                    True))))))))))))))))))
noncomputable def g12_does (p : PM) (v1 : Int32) (v2 : Int32) (v3 : Int32) (v4 : Int32) (v5 : Int32) (v6 : Int32) (v7 : Int32) : Prop := bg12_does v12_in g12_in v12_isAccount g12_isAccount v12_doLimit g12_doLimit v12_doMarket g12_doMarket v12_doIceberg g12_doIceberg v12_doPeg g12_doPeg v12_doStop g12_doStop v12_doQuote g12_doQuote v12_doCancel g12_doCancel v12_doRule g12_doRule v12_puts g12_puts v12_doAuction g12_doAuction v12_doPass g12_doPass v12_doEndDay g12_doEndDay v12_doBust g12_doBust v12_doAdjust g12_doAdjust v12_doesMore g12_doesMore g12_does_265 g12_does_266 g12_does_334 p v1 v2 v3 v4 v5 v6 v7
noncomputable def bv12_act (F267 : PM → PM) (F319 : PM → Int32 → Int32 → Int32 → Int32 → Int32 → Int32 → Int32 → Int64 × PM) (p : PM) (v1 : Int32) (v2 : Int32) (v3 : Int32) (v4 : Int32) (v5 : Int32) (v6 : Int32) (v7 : Int32) : Int32 × PM :=
  let r1 : Int64 × PM := F319 p v1 v2 v3 v4 v5 v6 v7
  if (r1.2.1 12 1 0) = 0 then (
    let p2 : PM := F267 r1.2
    let x3 : Int32 := ((cn 7) * (p2.1 12 1 60))
    let p4 : PM := pI p2 13 40 (x3).toNatClampNeg v1
    let p5 : PM := pI p4 13 40 ((x3 + (cn 1))).toNatClampNeg v2
    let p6 : PM := pI p5 13 40 ((x3 + (cn 2))).toNatClampNeg v3
    let p7 : PM := pI p6 13 40 ((x3 + (cn 3))).toNatClampNeg v4
    let p8 : PM := pI p7 13 40 ((x3 + (cn 4))).toNatClampNeg v5
    let p9 : PM := pI p8 13 40 ((x3 + (cn 5))).toNatClampNeg v6
    let p10 : PM := pI p9 13 40 ((x3 + (cn 6))).toNatClampNeg v7
    let p11 : PM := pI p10 12 1 60 ((p10.1 12 1 60) + (cn 1))
    ((r1.1).toInt32, p11))
  else (
    ((cn 0), r1.2))
noncomputable def v12_act (p : PM) (v1 : Int32) (v2 : Int32) (v3 : Int32) (v4 : Int32) (v5 : Int32) (v6 : Int32) (v7 : Int32) : Int32 × PM := bv12_act v12_works v12_does p v1 v2 v3 v4 v5 v6 v7
noncomputable def bg12_act (F267 : PM → PM) (G267 : PM → Prop) (F319 : PM → Int32 → Int32 → Int32 → Int32 → Int32 → Int32 → Int32 → Int64 × PM) (G319 : PM → Int32 → Int32 → Int32 → Int32 → Int32 → Int32 → Int32 → Prop) (p : PM) (v1 : Int32) (v2 : Int32) (v3 : Int32) (v4 : Int32) (v5 : Int32) (v6 : Int32) (v7 : Int32) : Prop :=
  (G319 p v1 v2 v3 v4 v5 v6 v7) ∧ (
  let r1 : Int64 × PM := F319 p v1 v2 v3 v4 v5 v6 v7
  if (r1.2.1 12 1 0) = 0 then (
    (G267 r1.2) ∧ (
    let p2 : PM := F267 r1.2
    let x3 : Int32 := ((cn 7) * (p2.1 12 1 60))
    (inb x3 3640) ∧ (
    let p4 : PM := pI p2 13 40 (x3).toNatClampNeg v1
    (inb (x3 + (cn 1)) 3640) ∧ (
    let p5 : PM := pI p4 13 40 ((x3 + (cn 1))).toNatClampNeg v2
    (inb (x3 + (cn 2)) 3640) ∧ (
    let p6 : PM := pI p5 13 40 ((x3 + (cn 2))).toNatClampNeg v3
    (inb (x3 + (cn 3)) 3640) ∧ (
    let p7 : PM := pI p6 13 40 ((x3 + (cn 3))).toNatClampNeg v4
    (inb (x3 + (cn 4)) 3640) ∧ (
    let p8 : PM := pI p7 13 40 ((x3 + (cn 4))).toNatClampNeg v5
    (inb (x3 + (cn 5)) 3640) ∧ (
    let p9 : PM := pI p8 13 40 ((x3 + (cn 5))).toNatClampNeg v6
    (inb (x3 + (cn 6)) 3640) ∧ (
    let p10 : PM := pI p9 13 40 ((x3 + (cn 6))).toNatClampNeg v7
    let p11 : PM := pI p10 12 1 60 ((p10.1 12 1 60) + (cn 1))
    True)))))))))
  else (
    True))
noncomputable def g12_act (p : PM) (v1 : Int32) (v2 : Int32) (v3 : Int32) (v4 : Int32) (v5 : Int32) (v6 : Int32) (v7 : Int32) : Prop := bg12_act v12_works g12_works v12_does g12_does p v1 v2 v3 v4 v5 v6 v7
noncomputable def bv12_limit (F321 : PM → Int32 → Int32 → Int32 → Int32 → Int32 → Int32 → Int32 → Int32 × PM) (p : PM) (v1 : Int32) (v2 : Int32) (v3 : Int32) (v4 : Int32) (v5 : Int32) (v6 : Int32) : Int32 × PM :=
  let r1 : Int32 × PM := F321 p (cn 0) v1 v2 v3 v4 v5 v6
  (r1.1, r1.2)
noncomputable def v12_limit (p : PM) (v1 : Int32) (v2 : Int32) (v3 : Int32) (v4 : Int32) (v5 : Int32) (v6 : Int32) : Int32 × PM := bv12_limit v12_act p v1 v2 v3 v4 v5 v6
noncomputable def bg12_limit (F321 : PM → Int32 → Int32 → Int32 → Int32 → Int32 → Int32 → Int32 → Int32 × PM) (G321 : PM → Int32 → Int32 → Int32 → Int32 → Int32 → Int32 → Int32 → Prop) (p : PM) (v1 : Int32) (v2 : Int32) (v3 : Int32) (v4 : Int32) (v5 : Int32) (v6 : Int32) : Prop :=
  (G321 p (cn 0) v1 v2 v3 v4 v5 v6) ∧ (
  let r1 : Int32 × PM := F321 p (cn 0) v1 v2 v3 v4 v5 v6
  True)
noncomputable def g12_limit (p : PM) (v1 : Int32) (v2 : Int32) (v3 : Int32) (v4 : Int32) (v5 : Int32) (v6 : Int32) : Prop := bg12_limit v12_act g12_act p v1 v2 v3 v4 v5 v6
noncomputable def bv12_market (F321 : PM → Int32 → Int32 → Int32 → Int32 → Int32 → Int32 → Int32 → Int32 × PM) (p : PM) (v1 : Int32) (v2 : Int32) (v3 : Int32) : Int32 × PM :=
  let r1 : Int32 × PM := F321 p (cn 1) v1 v2 v3 (cn 0) (cn 0) (cn 0)
  (r1.1, r1.2)
noncomputable def v12_market (p : PM) (v1 : Int32) (v2 : Int32) (v3 : Int32) : Int32 × PM := bv12_market v12_act p v1 v2 v3
noncomputable def bg12_market (F321 : PM → Int32 → Int32 → Int32 → Int32 → Int32 → Int32 → Int32 → Int32 × PM) (G321 : PM → Int32 → Int32 → Int32 → Int32 → Int32 → Int32 → Int32 → Prop) (p : PM) (v1 : Int32) (v2 : Int32) (v3 : Int32) : Prop :=
  (G321 p (cn 1) v1 v2 v3 (cn 0) (cn 0) (cn 0)) ∧ (
  let r1 : Int32 × PM := F321 p (cn 1) v1 v2 v3 (cn 0) (cn 0) (cn 0)
  True)
noncomputable def g12_market (p : PM) (v1 : Int32) (v2 : Int32) (v3 : Int32) : Prop := bg12_market v12_act g12_act p v1 v2 v3
noncomputable def bv12_iceberg (F321 : PM → Int32 → Int32 → Int32 → Int32 → Int32 → Int32 → Int32 → Int32 × PM) (p : PM) (v1 : Int32) (v2 : Int32) (v3 : Int32) (v4 : Int32) (v5 : Int32) : Int32 × PM :=
  let r1 : Int32 × PM := F321 p (cn 2) v1 v2 v3 v4 v5 (cn 0)
  (r1.1, r1.2)
noncomputable def v12_iceberg (p : PM) (v1 : Int32) (v2 : Int32) (v3 : Int32) (v4 : Int32) (v5 : Int32) : Int32 × PM := bv12_iceberg v12_act p v1 v2 v3 v4 v5
noncomputable def bg12_iceberg (F321 : PM → Int32 → Int32 → Int32 → Int32 → Int32 → Int32 → Int32 → Int32 × PM) (G321 : PM → Int32 → Int32 → Int32 → Int32 → Int32 → Int32 → Int32 → Prop) (p : PM) (v1 : Int32) (v2 : Int32) (v3 : Int32) (v4 : Int32) (v5 : Int32) : Prop :=
  (G321 p (cn 2) v1 v2 v3 v4 v5 (cn 0)) ∧ (
  let r1 : Int32 × PM := F321 p (cn 2) v1 v2 v3 v4 v5 (cn 0)
  True)
noncomputable def g12_iceberg (p : PM) (v1 : Int32) (v2 : Int32) (v3 : Int32) (v4 : Int32) (v5 : Int32) : Prop := bg12_iceberg v12_act g12_act p v1 v2 v3 v4 v5
noncomputable def bv12_peg (F321 : PM → Int32 → Int32 → Int32 → Int32 → Int32 → Int32 → Int32 → Int32 × PM) (p : PM) (v1 : Int32) (v2 : Int32) (v3 : Int32) (v4 : Int32) (v5 : Int32) : Int32 × PM :=
  let r1 : Int32 × PM := F321 p (cn 3) v1 v2 v3 v4 v5 (cn 0)
  (r1.1, r1.2)
noncomputable def v12_peg (p : PM) (v1 : Int32) (v2 : Int32) (v3 : Int32) (v4 : Int32) (v5 : Int32) : Int32 × PM := bv12_peg v12_act p v1 v2 v3 v4 v5
noncomputable def bg12_peg (F321 : PM → Int32 → Int32 → Int32 → Int32 → Int32 → Int32 → Int32 → Int32 × PM) (G321 : PM → Int32 → Int32 → Int32 → Int32 → Int32 → Int32 → Int32 → Prop) (p : PM) (v1 : Int32) (v2 : Int32) (v3 : Int32) (v4 : Int32) (v5 : Int32) : Prop :=
  (G321 p (cn 3) v1 v2 v3 v4 v5 (cn 0)) ∧ (
  let r1 : Int32 × PM := F321 p (cn 3) v1 v2 v3 v4 v5 (cn 0)
  True)
noncomputable def g12_peg (p : PM) (v1 : Int32) (v2 : Int32) (v3 : Int32) (v4 : Int32) (v5 : Int32) : Prop := bg12_peg v12_act g12_act p v1 v2 v3 v4 v5
noncomputable def bv12_stop (F321 : PM → Int32 → Int32 → Int32 → Int32 → Int32 → Int32 → Int32 → Int32 × PM) (p : PM) (v1 : Int32) (v2 : Int32) (v3 : Int32) (v4 : Int32) (v5 : Int32) : Int32 × PM :=
  let r1 : Int32 × PM := F321 p (cn 4) v1 v2 v3 v4 v5 (cn 0)
  (r1.1, r1.2)
noncomputable def v12_stop (p : PM) (v1 : Int32) (v2 : Int32) (v3 : Int32) (v4 : Int32) (v5 : Int32) : Int32 × PM := bv12_stop v12_act p v1 v2 v3 v4 v5
noncomputable def bg12_stop (F321 : PM → Int32 → Int32 → Int32 → Int32 → Int32 → Int32 → Int32 → Int32 × PM) (G321 : PM → Int32 → Int32 → Int32 → Int32 → Int32 → Int32 → Int32 → Prop) (p : PM) (v1 : Int32) (v2 : Int32) (v3 : Int32) (v4 : Int32) (v5 : Int32) : Prop :=
  (G321 p (cn 4) v1 v2 v3 v4 v5 (cn 0)) ∧ (
  let r1 : Int32 × PM := F321 p (cn 4) v1 v2 v3 v4 v5 (cn 0)
  True)
noncomputable def g12_stop (p : PM) (v1 : Int32) (v2 : Int32) (v3 : Int32) (v4 : Int32) (v5 : Int32) : Prop := bg12_stop v12_act g12_act p v1 v2 v3 v4 v5
noncomputable def bv12_quote (F321 : PM → Int32 → Int32 → Int32 → Int32 → Int32 → Int32 → Int32 → Int32 × PM) (p : PM) (v1 : Int32) (v2 : Int32) (v3 : Int32) (v4 : Int32) (v5 : Int32) : Int32 × PM :=
  let r1 : Int32 × PM := F321 p (cn 5) v1 v2 v3 v4 v5 (cn 0)
  (r1.1, r1.2)
noncomputable def v12_quote (p : PM) (v1 : Int32) (v2 : Int32) (v3 : Int32) (v4 : Int32) (v5 : Int32) : Int32 × PM := bv12_quote v12_act p v1 v2 v3 v4 v5
noncomputable def bg12_quote (F321 : PM → Int32 → Int32 → Int32 → Int32 → Int32 → Int32 → Int32 → Int32 × PM) (G321 : PM → Int32 → Int32 → Int32 → Int32 → Int32 → Int32 → Int32 → Prop) (p : PM) (v1 : Int32) (v2 : Int32) (v3 : Int32) (v4 : Int32) (v5 : Int32) : Prop :=
  (G321 p (cn 5) v1 v2 v3 v4 v5 (cn 0)) ∧ (
  let r1 : Int32 × PM := F321 p (cn 5) v1 v2 v3 v4 v5 (cn 0)
  True)
noncomputable def g12_quote (p : PM) (v1 : Int32) (v2 : Int32) (v3 : Int32) (v4 : Int32) (v5 : Int32) : Prop := bg12_quote v12_act g12_act p v1 v2 v3 v4 v5
noncomputable def bv12_cancel (F321 : PM → Int32 → Int32 → Int32 → Int32 → Int32 → Int32 → Int32 → Int32 × PM) (p : PM) (v1 : Int32) : Int32 × PM :=
  let r1 : Int32 × PM := F321 p (cn 6) v1 (cn 0) (cn 0) (cn 0) (cn 0) (cn 0)
  (r1.1, r1.2)
noncomputable def v12_cancel (p : PM) (v1 : Int32) : Int32 × PM := bv12_cancel v12_act p v1
noncomputable def bg12_cancel (F321 : PM → Int32 → Int32 → Int32 → Int32 → Int32 → Int32 → Int32 → Int32 × PM) (G321 : PM → Int32 → Int32 → Int32 → Int32 → Int32 → Int32 → Int32 → Prop) (p : PM) (v1 : Int32) : Prop :=
  (G321 p (cn 6) v1 (cn 0) (cn 0) (cn 0) (cn 0) (cn 0)) ∧ (
  let r1 : Int32 × PM := F321 p (cn 6) v1 (cn 0) (cn 0) (cn 0) (cn 0) (cn 0)
  True)
noncomputable def g12_cancel (p : PM) (v1 : Int32) : Prop := bg12_cancel v12_act g12_act p v1
noncomputable def bv12_setRule (F321 : PM → Int32 → Int32 → Int32 → Int32 → Int32 → Int32 → Int32 → Int32 × PM) (p : PM) (v1 : Int32) (v2 : Int32) (v3 : Int32) (v4 : Int32) : Int32 × PM :=
  let r1 : Int32 × PM := F321 p (cn 7) v1 v2 v3 v4 (cn 0) (cn 0)
  (r1.1, r1.2)
noncomputable def v12_setRule (p : PM) (v1 : Int32) (v2 : Int32) (v3 : Int32) (v4 : Int32) : Int32 × PM := bv12_setRule v12_act p v1 v2 v3 v4
noncomputable def bg12_setRule (F321 : PM → Int32 → Int32 → Int32 → Int32 → Int32 → Int32 → Int32 → Int32 × PM) (G321 : PM → Int32 → Int32 → Int32 → Int32 → Int32 → Int32 → Int32 → Prop) (p : PM) (v1 : Int32) (v2 : Int32) (v3 : Int32) (v4 : Int32) : Prop :=
  (G321 p (cn 7) v1 v2 v3 v4 (cn 0) (cn 0)) ∧ (
  let r1 : Int32 × PM := F321 p (cn 7) v1 v2 v3 v4 (cn 0) (cn 0)
  True)
noncomputable def g12_setRule (p : PM) (v1 : Int32) (v2 : Int32) (v3 : Int32) (v4 : Int32) : Prop := bg12_setRule v12_act g12_act p v1 v2 v3 v4
noncomputable def bv12_setBand (F321 : PM → Int32 → Int32 → Int32 → Int32 → Int32 → Int32 → Int32 → Int32 × PM) (p : PM) (v1 : Int32) (v2 : Int32) : Int32 × PM :=
  let r1 : Int32 × PM := F321 p (cn 8) v1 v2 (cn 0) (cn 0) (cn 0) (cn 0)
  (r1.1, r1.2)
noncomputable def v12_setBand (p : PM) (v1 : Int32) (v2 : Int32) : Int32 × PM := bv12_setBand v12_act p v1 v2
noncomputable def bg12_setBand (F321 : PM → Int32 → Int32 → Int32 → Int32 → Int32 → Int32 → Int32 → Int32 × PM) (G321 : PM → Int32 → Int32 → Int32 → Int32 → Int32 → Int32 → Int32 → Prop) (p : PM) (v1 : Int32) (v2 : Int32) : Prop :=
  (G321 p (cn 8) v1 v2 (cn 0) (cn 0) (cn 0) (cn 0)) ∧ (
  let r1 : Int32 × PM := F321 p (cn 8) v1 v2 (cn 0) (cn 0) (cn 0) (cn 0)
  True)
noncomputable def g12_setBand (p : PM) (v1 : Int32) (v2 : Int32) : Prop := bg12_setBand v12_act g12_act p v1 v2
noncomputable def bv12_setProtection (F321 : PM → Int32 → Int32 → Int32 → Int32 → Int32 → Int32 → Int32 → Int32 × PM) (p : PM) (v1 : Int32) (v2 : Int32) : Int32 × PM :=
  let r1 : Int32 × PM := F321 p (cn 9) v1 v2 (cn 0) (cn 0) (cn 0) (cn 0)
  (r1.1, r1.2)
noncomputable def v12_setProtection (p : PM) (v1 : Int32) (v2 : Int32) : Int32 × PM := bv12_setProtection v12_act p v1 v2
noncomputable def bg12_setProtection (F321 : PM → Int32 → Int32 → Int32 → Int32 → Int32 → Int32 → Int32 → Int32 × PM) (G321 : PM → Int32 → Int32 → Int32 → Int32 → Int32 → Int32 → Int32 → Prop) (p : PM) (v1 : Int32) (v2 : Int32) : Prop :=
  (G321 p (cn 9) v1 v2 (cn 0) (cn 0) (cn 0) (cn 0)) ∧ (
  let r1 : Int32 × PM := F321 p (cn 9) v1 v2 (cn 0) (cn 0) (cn 0) (cn 0)
  True)
noncomputable def g12_setProtection (p : PM) (v1 : Int32) (v2 : Int32) : Prop := bg12_setProtection v12_act g12_act p v1 v2
noncomputable def bv12_setLimit (F321 : PM → Int32 → Int32 → Int32 → Int32 → Int32 → Int32 → Int32 → Int32 × PM) (p : PM) (v1 : Int32) (v2 : Int32) (v3 : Int32) : Int32 × PM :=
  let r1 : Int32 × PM := F321 p (cn 10) v1 v2 v3 (cn 0) (cn 0) (cn 0)
  (r1.1, r1.2)
noncomputable def v12_setLimit (p : PM) (v1 : Int32) (v2 : Int32) (v3 : Int32) : Int32 × PM := bv12_setLimit v12_act p v1 v2 v3
noncomputable def bg12_setLimit (F321 : PM → Int32 → Int32 → Int32 → Int32 → Int32 → Int32 → Int32 → Int32 × PM) (G321 : PM → Int32 → Int32 → Int32 → Int32 → Int32 → Int32 → Int32 → Prop) (p : PM) (v1 : Int32) (v2 : Int32) (v3 : Int32) : Prop :=
  (G321 p (cn 10) v1 v2 v3 (cn 0) (cn 0) (cn 0)) ∧ (
  let r1 : Int32 × PM := F321 p (cn 10) v1 v2 v3 (cn 0) (cn 0) (cn 0)
  True)
noncomputable def g12_setLimit (p : PM) (v1 : Int32) (v2 : Int32) (v3 : Int32) : Prop := bg12_setLimit v12_act g12_act p v1 v2 v3
noncomputable def bv12_auction (F321 : PM → Int32 → Int32 → Int32 → Int32 → Int32 → Int32 → Int32 → Int32 × PM) (p : PM) (v1 : Int32) (v2 : Int32) (v3 : Int32) (v4 : Int32) : Int32 × PM :=
  let r1 : Int32 × PM := F321 p (cn 11) v1 v2 v3 v4 (cn 0) (cn 0)
  (r1.1, r1.2)
noncomputable def v12_auction (p : PM) (v1 : Int32) (v2 : Int32) (v3 : Int32) (v4 : Int32) : Int32 × PM := bv12_auction v12_act p v1 v2 v3 v4
noncomputable def bg12_auction (F321 : PM → Int32 → Int32 → Int32 → Int32 → Int32 → Int32 → Int32 → Int32 × PM) (G321 : PM → Int32 → Int32 → Int32 → Int32 → Int32 → Int32 → Int32 → Prop) (p : PM) (v1 : Int32) (v2 : Int32) (v3 : Int32) (v4 : Int32) : Prop :=
  (G321 p (cn 11) v1 v2 v3 v4 (cn 0) (cn 0)) ∧ (
  let r1 : Int32 × PM := F321 p (cn 11) v1 v2 v3 v4 (cn 0) (cn 0)
  True)
noncomputable def g12_auction (p : PM) (v1 : Int32) (v2 : Int32) (v3 : Int32) (v4 : Int32) : Prop := bg12_auction v12_act g12_act p v1 v2 v3 v4
noncomputable def bv12_pass (F321 : PM → Int32 → Int32 → Int32 → Int32 → Int32 → Int32 → Int32 → Int32 × PM) (p : PM) (v1 : Int32) : Int32 × PM :=
  let r1 : Int32 × PM := F321 p (cn 12) v1 (cn 0) (cn 0) (cn 0) (cn 0) (cn 0)
  (r1.1, r1.2)
noncomputable def v12_pass (p : PM) (v1 : Int32) : Int32 × PM := bv12_pass v12_act p v1
noncomputable def bg12_pass (F321 : PM → Int32 → Int32 → Int32 → Int32 → Int32 → Int32 → Int32 → Int32 × PM) (G321 : PM → Int32 → Int32 → Int32 → Int32 → Int32 → Int32 → Int32 → Prop) (p : PM) (v1 : Int32) : Prop :=
  (G321 p (cn 12) v1 (cn 0) (cn 0) (cn 0) (cn 0) (cn 0)) ∧ (
  let r1 : Int32 × PM := F321 p (cn 12) v1 (cn 0) (cn 0) (cn 0) (cn 0) (cn 0)
  True)
noncomputable def g12_pass (p : PM) (v1 : Int32) : Prop := bg12_pass v12_act g12_act p v1
noncomputable def bv12_endDay (F321 : PM → Int32 → Int32 → Int32 → Int32 → Int32 → Int32 → Int32 → Int32 × PM) (p : PM) : Int32 × PM :=
  let r1 : Int32 × PM := F321 p (cn 13) (cn 0) (cn 0) (cn 0) (cn 0) (cn 0) (cn 0)
  (r1.1, r1.2)
noncomputable def v12_endDay (p : PM) : Int32 × PM := bv12_endDay v12_act p
noncomputable def bg12_endDay (F321 : PM → Int32 → Int32 → Int32 → Int32 → Int32 → Int32 → Int32 → Int32 × PM) (G321 : PM → Int32 → Int32 → Int32 → Int32 → Int32 → Int32 → Int32 → Prop) (p : PM) : Prop :=
  (G321 p (cn 13) (cn 0) (cn 0) (cn 0) (cn 0) (cn 0) (cn 0)) ∧ (
  let r1 : Int32 × PM := F321 p (cn 13) (cn 0) (cn 0) (cn 0) (cn 0) (cn 0) (cn 0)
  True)
noncomputable def g12_endDay (p : PM) : Prop := bg12_endDay v12_act g12_act p
noncomputable def bv12_bust (F321 : PM → Int32 → Int32 → Int32 → Int32 → Int32 → Int32 → Int32 → Int32 × PM) (p : PM) (v1 : Int32) : Int32 × PM :=
  let r1 : Int32 × PM := F321 p (cn 14) v1 (cn 0) (cn 0) (cn 0) (cn 0) (cn 0)
  (r1.1, r1.2)
noncomputable def v12_bust (p : PM) (v1 : Int32) : Int32 × PM := bv12_bust v12_act p v1
noncomputable def bg12_bust (F321 : PM → Int32 → Int32 → Int32 → Int32 → Int32 → Int32 → Int32 → Int32 × PM) (G321 : PM → Int32 → Int32 → Int32 → Int32 → Int32 → Int32 → Int32 → Prop) (p : PM) (v1 : Int32) : Prop :=
  (G321 p (cn 14) v1 (cn 0) (cn 0) (cn 0) (cn 0) (cn 0)) ∧ (
  let r1 : Int32 × PM := F321 p (cn 14) v1 (cn 0) (cn 0) (cn 0) (cn 0) (cn 0)
  True)
noncomputable def g12_bust (p : PM) (v1 : Int32) : Prop := bg12_bust v12_act g12_act p v1
noncomputable def bv12_adjust (F321 : PM → Int32 → Int32 → Int32 → Int32 → Int32 → Int32 → Int32 → Int32 × PM) (p : PM) (v1 : Int32) (v2 : Int32) : Int32 × PM :=
  let r1 : Int32 × PM := F321 p (cn 15) v1 v2 (cn 0) (cn 0) (cn 0) (cn 0)
  (r1.1, r1.2)
noncomputable def v12_adjust (p : PM) (v1 : Int32) (v2 : Int32) : Int32 × PM := bv12_adjust v12_act p v1 v2
noncomputable def bg12_adjust (F321 : PM → Int32 → Int32 → Int32 → Int32 → Int32 → Int32 → Int32 → Int32 × PM) (G321 : PM → Int32 → Int32 → Int32 → Int32 → Int32 → Int32 → Int32 → Prop) (p : PM) (v1 : Int32) (v2 : Int32) : Prop :=
  (G321 p (cn 15) v1 v2 (cn 0) (cn 0) (cn 0) (cn 0)) ∧ (
  let r1 : Int32 × PM := F321 p (cn 15) v1 v2 (cn 0) (cn 0) (cn 0) (cn 0)
  True)
noncomputable def g12_adjust (p : PM) (v1 : Int32) (v2 : Int32) : Prop := bg12_adjust v12_act g12_act p v1 v2
noncomputable def bv12_giveUp (F321 : PM → Int32 → Int32 → Int32 → Int32 → Int32 → Int32 → Int32 → Int32 × PM) (p : PM) (v1 : Int32) (v2 : Int32) (v3 : Int32) : Int32 × PM :=
  if v2 = 0 then (
    let r1 : Int32 × PM := F321 p (cn 16) v1 (cn 0) v3 (cn 0) (cn 0) (cn 0)
    (r1.1, r1.2))
  else (
    let r2 : Int32 × PM := F321 p (cn 16) v1 (cn 1) v3 (cn 0) (cn 0) (cn 0)
    (r2.1, r2.2))
noncomputable def v12_giveUp (p : PM) (v1 : Int32) (v2 : Int32) (v3 : Int32) : Int32 × PM := bv12_giveUp v12_act p v1 v2 v3
noncomputable def bg12_giveUp (F321 : PM → Int32 → Int32 → Int32 → Int32 → Int32 → Int32 → Int32 → Int32 × PM) (G321 : PM → Int32 → Int32 → Int32 → Int32 → Int32 → Int32 → Int32 → Prop) (p : PM) (v1 : Int32) (v2 : Int32) (v3 : Int32) : Prop :=
  if v2 = 0 then (
    (G321 p (cn 16) v1 (cn 0) v3 (cn 0) (cn 0) (cn 0)) ∧ (
    let r1 : Int32 × PM := F321 p (cn 16) v1 (cn 0) v3 (cn 0) (cn 0) (cn 0)
    True))
  else (
    (G321 p (cn 16) v1 (cn 1) v3 (cn 0) (cn 0) (cn 0)) ∧ (
    let r2 : Int32 × PM := F321 p (cn 16) v1 (cn 1) v3 (cn 0) (cn 0) (cn 0)
    True))
noncomputable def g12_giveUp (p : PM) (v1 : Int32) (v2 : Int32) (v3 : Int32) : Prop := bg12_giveUp v12_act g12_act p v1 v2 v3
noncomputable def bv12_allot (F321 : PM → Int32 → Int32 → Int32 → Int32 → Int32 → Int32 → Int32 → Int32 × PM) (p : PM) (v1 : Int32) (v2 : Int32) (v3 : Int32) (v4 : Int32) : Int32 × PM :=
  let r1 : Int32 × PM := F321 p (cn 17) v1 v2 v3 v4 (cn 0) (cn 0)
  (r1.1, r1.2)
noncomputable def v12_allot (p : PM) (v1 : Int32) (v2 : Int32) (v3 : Int32) (v4 : Int32) : Int32 × PM := bv12_allot v12_act p v1 v2 v3 v4
noncomputable def bg12_allot (F321 : PM → Int32 → Int32 → Int32 → Int32 → Int32 → Int32 → Int32 → Int32 × PM) (G321 : PM → Int32 → Int32 → Int32 → Int32 → Int32 → Int32 → Int32 → Prop) (p : PM) (v1 : Int32) (v2 : Int32) (v3 : Int32) (v4 : Int32) : Prop :=
  (G321 p (cn 17) v1 v2 v3 v4 (cn 0) (cn 0)) ∧ (
  let r1 : Int32 × PM := F321 p (cn 17) v1 v2 v3 v4 (cn 0) (cn 0)
  True)
noncomputable def g12_allot (p : PM) (v1 : Int32) (v2 : Int32) (v3 : Int32) (v4 : Int32) : Prop := bg12_allot v12_act g12_act p v1 v2 v3 v4
noncomputable def bv12_exercise (F321 : PM → Int32 → Int32 → Int32 → Int32 → Int32 → Int32 → Int32 → Int32 × PM) (p : PM) (v1 : Int32) (v2 : Int32) (v3 : Int32) : Int32 × PM :=
  let r1 : Int32 × PM := F321 p (cn 18) v1 v2 v3 (cn 0) (cn 0) (cn 0)
  (r1.1, r1.2)
noncomputable def v12_exercise (p : PM) (v1 : Int32) (v2 : Int32) (v3 : Int32) : Int32 × PM := bv12_exercise v12_act p v1 v2 v3
noncomputable def bg12_exercise (F321 : PM → Int32 → Int32 → Int32 → Int32 → Int32 → Int32 → Int32 → Int32 × PM) (G321 : PM → Int32 → Int32 → Int32 → Int32 → Int32 → Int32 → Int32 → Prop) (p : PM) (v1 : Int32) (v2 : Int32) (v3 : Int32) : Prop :=
  (G321 p (cn 18) v1 v2 v3 (cn 0) (cn 0) (cn 0)) ∧ (
  let r1 : Int32 × PM := F321 p (cn 18) v1 v2 v3 (cn 0) (cn 0) (cn 0)
  True)
noncomputable def g12_exercise (p : PM) (v1 : Int32) (v2 : Int32) (v3 : Int32) : Prop := bg12_exercise v12_act g12_act p v1 v2 v3
noncomputable def bv12_convert (F321 : PM → Int32 → Int32 → Int32 → Int32 → Int32 → Int32 → Int32 → Int32 × PM) (p : PM) (v1 : Int32) (v2 : Int32) (v3 : Int32) : Int32 × PM :=
  let r1 : Int32 × PM := F321 p (cn 19) v1 v2 v3 (cn 0) (cn 0) (cn 0)
  (r1.1, r1.2)
noncomputable def v12_convert (p : PM) (v1 : Int32) (v2 : Int32) (v3 : Int32) : Int32 × PM := bv12_convert v12_act p v1 v2 v3
noncomputable def bg12_convert (F321 : PM → Int32 → Int32 → Int32 → Int32 → Int32 → Int32 → Int32 → Int32 × PM) (G321 : PM → Int32 → Int32 → Int32 → Int32 → Int32 → Int32 → Int32 → Prop) (p : PM) (v1 : Int32) (v2 : Int32) (v3 : Int32) : Prop :=
  (G321 p (cn 19) v1 v2 v3 (cn 0) (cn 0) (cn 0)) ∧ (
  let r1 : Int32 × PM := F321 p (cn 19) v1 v2 v3 (cn 0) (cn 0) (cn 0)
  True)
noncomputable def g12_convert (p : PM) (v1 : Int32) (v2 : Int32) (v3 : Int32) : Prop := bg12_convert v12_act g12_act p v1 v2 v3
noncomputable def bv12_setMove (F321 : PM → Int32 → Int32 → Int32 → Int32 → Int32 → Int32 → Int32 → Int32 × PM) (p : PM) (v1 : Int32) (v2 : Int32) (v3 : Int32) : Int32 × PM :=
  let r1 : Int32 × PM := F321 p (cn 20) v1 v2 v3 (cn 0) (cn 0) (cn 0)
  (r1.1, r1.2)
noncomputable def v12_setMove (p : PM) (v1 : Int32) (v2 : Int32) (v3 : Int32) : Int32 × PM := bv12_setMove v12_act p v1 v2 v3
noncomputable def bg12_setMove (F321 : PM → Int32 → Int32 → Int32 → Int32 → Int32 → Int32 → Int32 → Int32 × PM) (G321 : PM → Int32 → Int32 → Int32 → Int32 → Int32 → Int32 → Int32 → Prop) (p : PM) (v1 : Int32) (v2 : Int32) (v3 : Int32) : Prop :=
  (G321 p (cn 20) v1 v2 v3 (cn 0) (cn 0) (cn 0)) ∧ (
  let r1 : Int32 × PM := F321 p (cn 20) v1 v2 v3 (cn 0) (cn 0) (cn 0)
  True)
noncomputable def g12_setMove (p : PM) (v1 : Int32) (v2 : Int32) (v3 : Int32) : Prop := bg12_setMove v12_act g12_act p v1 v2 v3
noncomputable def bv12_setHaircut (F321 : PM → Int32 → Int32 → Int32 → Int32 → Int32 → Int32 → Int32 → Int32 × PM) (p : PM) (v1 : Int32) : Int32 × PM :=
  let r1 : Int32 × PM := F321 p (cn 21) v1 (cn 0) (cn 0) (cn 0) (cn 0) (cn 0)
  (r1.1, r1.2)
noncomputable def v12_setHaircut (p : PM) (v1 : Int32) : Int32 × PM := bv12_setHaircut v12_act p v1
noncomputable def bg12_setHaircut (F321 : PM → Int32 → Int32 → Int32 → Int32 → Int32 → Int32 → Int32 → Int32 × PM) (G321 : PM → Int32 → Int32 → Int32 → Int32 → Int32 → Int32 → Int32 → Prop) (p : PM) (v1 : Int32) : Prop :=
  (G321 p (cn 21) v1 (cn 0) (cn 0) (cn 0) (cn 0) (cn 0)) ∧ (
  let r1 : Int32 × PM := F321 p (cn 21) v1 (cn 0) (cn 0) (cn 0) (cn 0) (cn 0)
  True)
noncomputable def g12_setHaircut (p : PM) (v1 : Int32) : Prop := bg12_setHaircut v12_act g12_act p v1
noncomputable def bv12_pay (F321 : PM → Int32 → Int32 → Int32 → Int32 → Int32 → Int32 → Int32 → Int32 × PM) (p : PM) (v1 : Int32) (v2 : Int32) (v3 : Int32) : Int32 × PM :=
  let r1 : Int32 × PM := F321 p (cn 22) v1 v2 v3 (cn 0) (cn 0) (cn 0)
  (r1.1, r1.2)
noncomputable def v12_pay (p : PM) (v1 : Int32) (v2 : Int32) (v3 : Int32) : Int32 × PM := bv12_pay v12_act p v1 v2 v3
noncomputable def bg12_pay (F321 : PM → Int32 → Int32 → Int32 → Int32 → Int32 → Int32 → Int32 → Int32 × PM) (G321 : PM → Int32 → Int32 → Int32 → Int32 → Int32 → Int32 → Int32 → Prop) (p : PM) (v1 : Int32) (v2 : Int32) (v3 : Int32) : Prop :=
  (G321 p (cn 22) v1 v2 v3 (cn 0) (cn 0) (cn 0)) ∧ (
  let r1 : Int32 × PM := F321 p (cn 22) v1 v2 v3 (cn 0) (cn 0) (cn 0)
  True)
noncomputable def g12_pay (p : PM) (v1 : Int32) (v2 : Int32) (v3 : Int32) : Prop := bg12_pay v12_act g12_act p v1 v2 v3
noncomputable def bv12_setFund (F321 : PM → Int32 → Int32 → Int32 → Int32 → Int32 → Int32 → Int32 → Int32 × PM) (p : PM) (v1 : Int32) (v2 : Int32) : Int32 × PM :=
  let r1 : Int32 × PM := F321 p (cn 23) v1 v2 (cn 0) (cn 0) (cn 0) (cn 0)
  (r1.1, r1.2)
noncomputable def v12_setFund (p : PM) (v1 : Int32) (v2 : Int32) : Int32 × PM := bv12_setFund v12_act p v1 v2
noncomputable def bg12_setFund (F321 : PM → Int32 → Int32 → Int32 → Int32 → Int32 → Int32 → Int32 → Int32 × PM) (G321 : PM → Int32 → Int32 → Int32 → Int32 → Int32 → Int32 → Int32 → Prop) (p : PM) (v1 : Int32) (v2 : Int32) : Prop :=
  (G321 p (cn 23) v1 v2 (cn 0) (cn 0) (cn 0) (cn 0)) ∧ (
  let r1 : Int32 × PM := F321 p (cn 23) v1 v2 (cn 0) (cn 0) (cn 0) (cn 0)
  True)
noncomputable def g12_setFund (p : PM) (v1 : Int32) (v2 : Int32) : Prop := bg12_setFund v12_act g12_act p v1 v2
noncomputable def bv12_fail (F321 : PM → Int32 → Int32 → Int32 → Int32 → Int32 → Int32 → Int32 → Int32 × PM) (p : PM) (v1 : Int32) : Int32 × PM :=
  let r1 : Int32 × PM := F321 p (cn 24) v1 (cn 0) (cn 0) (cn 0) (cn 0) (cn 0)
  (r1.1, r1.2)
noncomputable def v12_fail (p : PM) (v1 : Int32) : Int32 × PM := bv12_fail v12_act p v1
noncomputable def bg12_fail (F321 : PM → Int32 → Int32 → Int32 → Int32 → Int32 → Int32 → Int32 → Int32 × PM) (G321 : PM → Int32 → Int32 → Int32 → Int32 → Int32 → Int32 → Int32 → Prop) (p : PM) (v1 : Int32) : Prop :=
  (G321 p (cn 24) v1 (cn 0) (cn 0) (cn 0) (cn 0) (cn 0)) ∧ (
  let r1 : Int32 × PM := F321 p (cn 24) v1 (cn 0) (cn 0) (cn 0) (cn 0) (cn 0)
  True)
noncomputable def g12_fail (p : PM) (v1 : Int32) : Prop := bg12_fail v12_act g12_act p v1
noncomputable def bv12_bid (F321 : PM → Int32 → Int32 → Int32 → Int32 → Int32 → Int32 → Int32 → Int32 × PM) (p : PM) (v1 : Int32) (v2 : Int32) : Int32 × PM :=
  let r1 : Int32 × PM := F321 p (cn 25) v1 v2 (cn 0) (cn 0) (cn 0) (cn 0)
  (r1.1, r1.2)
noncomputable def v12_bid (p : PM) (v1 : Int32) (v2 : Int32) : Int32 × PM := bv12_bid v12_act p v1 v2
noncomputable def bg12_bid (F321 : PM → Int32 → Int32 → Int32 → Int32 → Int32 → Int32 → Int32 → Int32 × PM) (G321 : PM → Int32 → Int32 → Int32 → Int32 → Int32 → Int32 → Int32 → Prop) (p : PM) (v1 : Int32) (v2 : Int32) : Prop :=
  (G321 p (cn 25) v1 v2 (cn 0) (cn 0) (cn 0) (cn 0)) ∧ (
  let r1 : Int32 × PM := F321 p (cn 25) v1 v2 (cn 0) (cn 0) (cn 0) (cn 0)
  True)
noncomputable def g12_bid (p : PM) (v1 : Int32) (v2 : Int32) : Prop := bg12_bid v12_act g12_act p v1 v2
noncomputable def bv12_closeOut (F321 : PM → Int32 → Int32 → Int32 → Int32 → Int32 → Int32 → Int32 → Int32 × PM) (p : PM) : Int32 × PM :=
  let r1 : Int32 × PM := F321 p (cn 26) (cn 0) (cn 0) (cn 0) (cn 0) (cn 0) (cn 0)
  (r1.1, r1.2)
noncomputable def v12_closeOut (p : PM) : Int32 × PM := bv12_closeOut v12_act p
noncomputable def bg12_closeOut (F321 : PM → Int32 → Int32 → Int32 → Int32 → Int32 → Int32 → Int32 → Int32 × PM) (G321 : PM → Int32 → Int32 → Int32 → Int32 → Int32 → Int32 → Int32 → Prop) (p : PM) : Prop :=
  (G321 p (cn 26) (cn 0) (cn 0) (cn 0) (cn 0) (cn 0) (cn 0)) ∧ (
  let r1 : Int32 × PM := F321 p (cn 26) (cn 0) (cn 0) (cn 0) (cn 0) (cn 0) (cn 0)
  True)
noncomputable def g12_closeOut (p : PM) : Prop := bg12_closeOut v12_act g12_act p
noncomputable def bv12_keep (p : PM) : Int32 × PM :=
  let p1 : PM := pI p 12 1 0 (cn 0)
  let p2 : PM := pI p1 12 1 61 (p1.1 12 1 60)
  ((p2.1 12 1 61), p2)
noncomputable def v12_keep (p : PM) : Int32 × PM := bv12_keep p
noncomputable def bg12_keep (p : PM) : Prop :=
  let p1 : PM := pI p 12 1 0 (cn 0)
  let p2 : PM := pI p1 12 1 61 (p1.1 12 1 60)
  True
noncomputable def g12_keep (p : PM) : Prop := bg12_keep p
noncomputable def bv12_failOver_16 (F267 : PM → PM) (F319 : PM → Int32 → Int32 → Int32 → Int32 → Int32 → Int32 → Int32 → Int64 × PM) (kv16 : PM → Int32 → Int32 → Int32 × PM) (p : PM) (v1 : Int32) (v2 : Int32) : Int32 × PM :=
  if v2 < (p.1 12 1 61) then (
    let r3 : Int64 × PM := F319 p (p.1 13 40 (((cn 7) * v2)).toNatClampNeg) (p.1 13 40 ((((cn 7) * v2) + (cn 1))).toNatClampNeg) (p.1 13 40 ((((cn 7) * v2) + (cn 2))).toNatClampNeg) (p.1 13 40 ((((cn 7) * v2) + (cn 3))).toNatClampNeg) (p.1 13 40 ((((cn 7) * v2) + (cn 4))).toNatClampNeg) (p.1 13 40 ((((cn 7) * v2) + (cn 5))).toNatClampNeg) (p.1 13 40 ((((cn 7) * v2) + (cn 6))).toNatClampNeg)
    let p4 : PM := F267 r3.2
    kv16 p4 v1 (v2 + (cn 1)))
  else (
    let p1 : PM := pI p 12 1 60 (p.1 12 1 61)
    let p2 : PM := pI p1 12 1 0 (cn 0)
    (v1, p2))
noncomputable def v12_failOver_16 (n : Nat) : PM → Int32 → Int32 → Int32 × PM := Nat.rec (motive := fun _ => PM → Int32 → Int32 → Int32 × PM) (fun p _ _ => (0, p)) (fun _ ih => bv12_failOver_16 v12_works v12_does ih) n
theorem ev12_failOver_16 (n : Nat) (p : PM) (v1 : Int32) (v2 : Int32) : v12_failOver_16 (n + 1) p v1 v2 = bv12_failOver_16 v12_works v12_does (v12_failOver_16 n) p v1 v2 := rfl
noncomputable def bg12_failOver_16 (F267 : PM → PM) (G267 : PM → Prop) (F319 : PM → Int32 → Int32 → Int32 → Int32 → Int32 → Int32 → Int32 → Int64 × PM) (G319 : PM → Int32 → Int32 → Int32 → Int32 → Int32 → Int32 → Int32 → Prop) (kg16 : PM → Int32 → Int32 → Prop) (p : PM) (v1 : Int32) (v2 : Int32) : Prop :=
  if v2 < (p.1 12 1 61) then (
    (inb ((cn 7) * v2) 3640) ∧ (
    (inb (((cn 7) * v2) + (cn 1)) 3640) ∧ (
    (inb (((cn 7) * v2) + (cn 2)) 3640) ∧ (
    (inb (((cn 7) * v2) + (cn 3)) 3640) ∧ (
    (inb (((cn 7) * v2) + (cn 4)) 3640) ∧ (
    (inb (((cn 7) * v2) + (cn 5)) 3640) ∧ (
    (inb (((cn 7) * v2) + (cn 6)) 3640) ∧ (
    (G319 p (p.1 13 40 (((cn 7) * v2)).toNatClampNeg) (p.1 13 40 ((((cn 7) * v2) + (cn 1))).toNatClampNeg) (p.1 13 40 ((((cn 7) * v2) + (cn 2))).toNatClampNeg) (p.1 13 40 ((((cn 7) * v2) + (cn 3))).toNatClampNeg) (p.1 13 40 ((((cn 7) * v2) + (cn 4))).toNatClampNeg) (p.1 13 40 ((((cn 7) * v2) + (cn 5))).toNatClampNeg) (p.1 13 40 ((((cn 7) * v2) + (cn 6))).toNatClampNeg)) ∧ (
    let r3 : Int64 × PM := F319 p (p.1 13 40 (((cn 7) * v2)).toNatClampNeg) (p.1 13 40 ((((cn 7) * v2) + (cn 1))).toNatClampNeg) (p.1 13 40 ((((cn 7) * v2) + (cn 2))).toNatClampNeg) (p.1 13 40 ((((cn 7) * v2) + (cn 3))).toNatClampNeg) (p.1 13 40 ((((cn 7) * v2) + (cn 4))).toNatClampNeg) (p.1 13 40 ((((cn 7) * v2) + (cn 5))).toNatClampNeg) (p.1 13 40 ((((cn 7) * v2) + (cn 6))).toNatClampNeg)
    (G267 r3.2) ∧ (
    let p4 : PM := F267 r3.2
    kg16 p4 v1 (v2 + (cn 1))))))))))))
  else (
    let p1 : PM := pI p 12 1 60 (p.1 12 1 61)
    let p2 : PM := pI p1 12 1 0 (cn 0)
    True)
noncomputable def g12_failOver_16 (n : Nat) : PM → Int32 → Int32 → Prop := Nat.rec (motive := fun _ => PM → Int32 → Int32 → Prop) (fun _ _ _ => False) (fun _ ih => bg12_failOver_16 v12_works g12_works v12_does g12_does ih) n
theorem eg12_failOver_16 (n : Nat) (p : PM) (v1 : Int32) (v2 : Int32) : g12_failOver_16 (n + 1) p v1 v2 = bg12_failOver_16 v12_works g12_works v12_does g12_does (g12_failOver_16 n) p v1 v2 := rfl
noncomputable def bv12_failOver (F214 : PM → PM) (kv16 : PM → Int32 → Int32 → Int32 × PM) (p : PM) : Int32 × PM :=
  let x1 : Int32 := ((p.1 12 1 60) - (p.1 12 1 61))
  let p2 : PM := F214 p
  kv16 p2 x1 (cn 0)
noncomputable def v12_failOver (p : PM) : Int32 × PM := bv12_failOver v12_resets (v12_failOver_16 FU) p
noncomputable def bg12_failOver (F214 : PM → PM) (G214 : PM → Prop) (kg16 : PM → Int32 → Int32 → Prop) (p : PM) : Prop :=
  let x1 : Int32 := ((p.1 12 1 60) - (p.1 12 1 61))
  (G214 p) ∧ (
  let p2 : PM := F214 p
  kg16 p2 x1 (cn 0))
noncomputable def g12_failOver (p : PM) : Prop := bg12_failOver v12_resets g12_resets (g12_failOver_16 FU) p
noncomputable def bv12_events (p : PM) : Int32 × PM :=
  let p1 : PM := pI p 12 1 0 (cn 0)
  ((p1.1 12 1 60), p1)
noncomputable def v12_events (p : PM) : Int32 × PM := bv12_events p
noncomputable def bg12_events (p : PM) : Prop :=
  let p1 : PM := pI p 12 1 0 (cn 0)
  True
noncomputable def g12_events (p : PM) : Prop := bg12_events p
noncomputable def bv12_position (F215 : PM → Int32 → Int32 → Int32 → Int32) (p : PM) (v1 : Int32) (v2 : Int32) : Int32 × PM :=
  if (F215 p v1 (cn 0) (cn 8)) = 0 then (
    let p1 : PM := pI p 12 1 0 (cn 1)
    if (p1.1 12 1 0) = 0 then (
      ((p1.1 13 1 ((((cn 4) * v1) + v2)).toNatClampNeg), p1))
    else (
      ((cn 0), p1)))
  else (
    if (F215 p v2 (cn 0) (cn 3)) = 0 then (
      let p2 : PM := pI p 12 1 0 (cn 1)
      if (p2.1 12 1 0) = 0 then (
        ((p2.1 13 1 ((((cn 4) * v1) + v2)).toNatClampNeg), p2))
      else (
        ((cn 0), p2)))
    else (
      let p3 : PM := pI p 12 1 0 (cn 0)
      if (p3.1 12 1 0) = 0 then (
        ((p3.1 13 1 ((((cn 4) * v1) + v2)).toNatClampNeg), p3))
      else (
        ((cn 0), p3))))
noncomputable def v12_position (p : PM) (v1 : Int32) (v2 : Int32) : Int32 × PM := bv12_position v12_in p v1 v2
noncomputable def bg12_position (F215 : PM → Int32 → Int32 → Int32 → Int32) (G215 : PM → Int32 → Int32 → Int32 → Prop) (p : PM) (v1 : Int32) (v2 : Int32) : Prop :=
  (G215 p v1 (cn 0) (cn 8)) ∧ (
  if (F215 p v1 (cn 0) (cn 8)) = 0 then (
    let p1 : PM := pI p 12 1 0 (cn 1)
    if (p1.1 12 1 0) = 0 then (
      (inb (((cn 4) * v1) + v2) 36) ∧ (
      True))
    else (
      True))
  else (
    (G215 p v2 (cn 0) (cn 3)) ∧ (
    if (F215 p v2 (cn 0) (cn 3)) = 0 then (
      let p2 : PM := pI p 12 1 0 (cn 1)
      if (p2.1 12 1 0) = 0 then (
        (inb (((cn 4) * v1) + v2) 36) ∧ (
        True))
      else (
        True))
    else (
      let p3 : PM := pI p 12 1 0 (cn 0)
      if (p3.1 12 1 0) = 0 then (
        (inb (((cn 4) * v1) + v2) 36) ∧ (
        True))
      else (
        True)))))
noncomputable def g12_position (p : PM) (v1 : Int32) (v2 : Int32) : Prop := bg12_position v12_in g12_in p v1 v2
noncomputable def bv12_positionByLog (F365 : PM → Int32 → Int32 → Int32 × PM) (p : PM) (v1 : Int32) (v2 : Int32) : Int32 × PM :=
  let r1 : Int32 × PM := F365 p v1 v2
  (r1.1, r1.2)
noncomputable def v12_positionByLog (p : PM) (v1 : Int32) (v2 : Int32) : Int32 × PM := bv12_positionByLog v12_position p v1 v2
noncomputable def bg12_positionByLog (F365 : PM → Int32 → Int32 → Int32 × PM) (G365 : PM → Int32 → Int32 → Prop) (p : PM) (v1 : Int32) (v2 : Int32) : Prop :=
  (G365 p v1 v2) ∧ (
  let r1 : Int32 × PM := F365 p v1 v2
  True)
noncomputable def g12_positionByLog (p : PM) (v1 : Int32) (v2 : Int32) : Prop := bg12_positionByLog v12_position g12_position p v1 v2
noncomputable def bv12_isBook (F215 : PM → Int32 → Int32 → Int32 → Int32) (p : PM) (v1 : Int32) : Int32 × PM :=
  if (F215 p v1 (cn 0) (cn 5)) = 0 then (
    let p1 : PM := pI p 12 1 0 (cn 1)
    if (p1.1 12 1 0) = 0 then (
      ((cn 1), p1))
    else (
      ((cn 0), p1)))
  else (
    let p2 : PM := pI p 12 1 0 (cn 0)
    if (p2.1 12 1 0) = 0 then (
      ((cn 1), p2))
    else (
      ((cn 0), p2)))
noncomputable def v12_isBook (p : PM) (v1 : Int32) : Int32 × PM := bv12_isBook v12_in p v1
noncomputable def bg12_isBook (F215 : PM → Int32 → Int32 → Int32 → Int32) (G215 : PM → Int32 → Int32 → Int32 → Prop) (p : PM) (v1 : Int32) : Prop :=
  (G215 p v1 (cn 0) (cn 5)) ∧ (
  if (F215 p v1 (cn 0) (cn 5)) = 0 then (
    let p1 : PM := pI p 12 1 0 (cn 1)
    if (p1.1 12 1 0) = 0 then (
      True)
    else (
      True))
  else (
    let p2 : PM := pI p 12 1 0 (cn 0)
    if (p2.1 12 1 0) = 0 then (
      True)
    else (
      True)))
noncomputable def g12_isBook (p : PM) (v1 : Int32) : Prop := bg12_isBook v12_in g12_in p v1
noncomputable def bv12_best (F240 : PM → Int32 → Int32 → Int32 → Int32) (F354 : PM → Int32 → Int32 × PM) (p : PM) (v1 : Int32) (v2 : Int32) : Int32 × PM :=
  let r1 : Int32 × PM := F354 p v1
  if r1.1 = 0 then (
    ((cn 0), r1.2))
  else (
    ((F240 r1.2 v1 v2 (cn 1)), r1.2))
noncomputable def v12_best (p : PM) (v1 : Int32) (v2 : Int32) : Int32 × PM := bv12_best v12_bestOf v12_isBook p v1 v2
noncomputable def bg12_best (F240 : PM → Int32 → Int32 → Int32 → Int32) (G240 : PM → Int32 → Int32 → Int32 → Prop) (F354 : PM → Int32 → Int32 × PM) (G354 : PM → Int32 → Prop) (p : PM) (v1 : Int32) (v2 : Int32) : Prop :=
  (G354 p v1) ∧ (
  let r1 : Int32 × PM := F354 p v1
  if r1.1 = 0 then (
    True)
  else (
    (G240 r1.2 v1 v2 (cn 1)) ∧ (
    True)))
noncomputable def g12_best (p : PM) (v1 : Int32) (v2 : Int32) : Prop := bg12_best v12_bestOf g12_bestOf v12_isBook g12_isBook p v1 v2
noncomputable def bv12_bestByLog (F355 : PM → Int32 → Int32 → Int32 × PM) (p : PM) (v1 : Int32) (v2 : Int32) : Int32 × PM :=
  let r1 : Int32 × PM := F355 p v1 v2
  (r1.1, r1.2)
noncomputable def v12_bestByLog (p : PM) (v1 : Int32) (v2 : Int32) : Int32 × PM := bv12_bestByLog v12_best p v1 v2
noncomputable def bg12_bestByLog (F355 : PM → Int32 → Int32 → Int32 × PM) (G355 : PM → Int32 → Int32 → Prop) (p : PM) (v1 : Int32) (v2 : Int32) : Prop :=
  (G355 p v1 v2) ∧ (
  let r1 : Int32 × PM := F355 p v1 v2
  True)
noncomputable def g12_bestByLog (p : PM) (v1 : Int32) (v2 : Int32) : Prop := bg12_bestByLog v12_best g12_best p v1 v2
noncomputable def bv12_shown_6 (F226 : PM → Int32 → Int32) (F241 : PM → Int32 → Int32 → Int32 → Int32 → Int32) (F354 : PM → Int32 → Int32 × PM) (kv6 : PM → Int32 → Int32 → Int32 → Int32 → Int32 → Int32 × PM) (p : PM) (v1 : Int32) (v2 : Int32) (v3 : Int32) (v4 : Int32) (v5 : Int32) : Int32 × PM :=
  if v5 < (cn 44) then (
    let r1 : Int32 × PM := F354 p v1
    if r1.1 = 0 then (
      (v4, r1.2))
    else (
      if (F241 r1.2 v5 v1 v2 v3) = 0 then (
        kv6 r1.2 v1 v2 v3 (v4 + (cn 0)) (v5 + (cn 1)))
      else (
        let x2 : Int32 := (v4 + (F226 r1.2 v5))
        kv6 r1.2 v1 v2 v3 x2 (v5 + (cn 1)))))
  else (
    (v4, p))
noncomputable def v12_shown_6 (n : Nat) : PM → Int32 → Int32 → Int32 → Int32 → Int32 → Int32 × PM := Nat.rec (motive := fun _ => PM → Int32 → Int32 → Int32 → Int32 → Int32 → Int32 × PM) (fun p _ _ _ _ _ => (0, p)) (fun _ ih => bv12_shown_6 v12_showsNow v12_isAt v12_isBook ih) n
theorem ev12_shown_6 (n : Nat) (p : PM) (v1 : Int32) (v2 : Int32) (v3 : Int32) (v4 : Int32) (v5 : Int32) : v12_shown_6 (n + 1) p v1 v2 v3 v4 v5 = bv12_shown_6 v12_showsNow v12_isAt v12_isBook (v12_shown_6 n) p v1 v2 v3 v4 v5 := rfl
noncomputable def bg12_shown_6 (F226 : PM → Int32 → Int32) (G226 : PM → Int32 → Prop) (F241 : PM → Int32 → Int32 → Int32 → Int32 → Int32) (G241 : PM → Int32 → Int32 → Int32 → Int32 → Prop) (F354 : PM → Int32 → Int32 × PM) (G354 : PM → Int32 → Prop) (kg6 : PM → Int32 → Int32 → Int32 → Int32 → Int32 → Prop) (p : PM) (v1 : Int32) (v2 : Int32) (v3 : Int32) (v4 : Int32) (v5 : Int32) : Prop :=
  if v5 < (cn 44) then (
    (G354 p v1) ∧ (
    let r1 : Int32 × PM := F354 p v1
    if r1.1 = 0 then (
      True)
    else (
      (G241 r1.2 v5 v1 v2 v3) ∧ (
      if (F241 r1.2 v5 v1 v2 v3) = 0 then (
        kg6 r1.2 v1 v2 v3 (v4 + (cn 0)) (v5 + (cn 1)))
      else (
        (G226 r1.2 v5) ∧ (
        let x2 : Int32 := (v4 + (F226 r1.2 v5))
        kg6 r1.2 v1 v2 v3 x2 (v5 + (cn 1))))))))
  else (
    True)
noncomputable def g12_shown_6 (n : Nat) : PM → Int32 → Int32 → Int32 → Int32 → Int32 → Prop := Nat.rec (motive := fun _ => PM → Int32 → Int32 → Int32 → Int32 → Int32 → Prop) (fun _ _ _ _ _ _ => False) (fun _ ih => bg12_shown_6 v12_showsNow g12_showsNow v12_isAt g12_isAt v12_isBook g12_isBook ih) n
theorem eg12_shown_6 (n : Nat) (p : PM) (v1 : Int32) (v2 : Int32) (v3 : Int32) (v4 : Int32) (v5 : Int32) : g12_shown_6 (n + 1) p v1 v2 v3 v4 v5 = bg12_shown_6 v12_showsNow g12_showsNow v12_isAt g12_isAt v12_isBook g12_isBook (g12_shown_6 n) p v1 v2 v3 v4 v5 := rfl
noncomputable def bv12_shown (kv6 : PM → Int32 → Int32 → Int32 → Int32 → Int32 → Int32 × PM) (p : PM) (v1 : Int32) (v2 : Int32) (v3 : Int32) : Int32 × PM :=
  kv6 p v1 v2 v3 (cn 0) (cn 0)
noncomputable def v12_shown (p : PM) (v1 : Int32) (v2 : Int32) (v3 : Int32) : Int32 × PM := bv12_shown (v12_shown_6 FU) p v1 v2 v3
noncomputable def bg12_shown (kg6 : PM → Int32 → Int32 → Int32 → Int32 → Int32 → Prop) (p : PM) (v1 : Int32) (v2 : Int32) (v3 : Int32) : Prop :=
  kg6 p v1 v2 v3 (cn 0) (cn 0)
noncomputable def g12_shown (p : PM) (v1 : Int32) (v2 : Int32) (v3 : Int32) : Prop := bg12_shown (g12_shown_6 FU) p v1 v2 v3
noncomputable def bv12_stateOf (F223 : PM → Int32 → Int32) (p : PM) (v1 : Int32) : Int32 × PM :=
  let p1 : PM := pI p 12 1 0 (cn 0)
  if (F223 p1 v1) < 0 then (
    ((cn 0), p1))
  else (
    ((p1.1 13 24 ((F223 p1 v1)).toNatClampNeg), p1))
noncomputable def v12_stateOf (p : PM) (v1 : Int32) : Int32 × PM := bv12_stateOf v12_placeOf p v1
noncomputable def bg12_stateOf (F223 : PM → Int32 → Int32) (G223 : PM → Int32 → Prop) (p : PM) (v1 : Int32) : Prop :=
  let p1 : PM := pI p 12 1 0 (cn 0)
  (G223 p1 v1) ∧ (
  if (F223 p1 v1) < 0 then (
    True)
  else (
    (inb (F223 p1 v1) 44) ∧ (
    True)))
noncomputable def g12_stateOf (p : PM) (v1 : Int32) : Prop := bg12_stateOf v12_placeOf g12_placeOf p v1
noncomputable def bv12_rest (F223 : PM → Int32 → Int32) (p : PM) (v1 : Int32) : Int32 × PM :=
  if (F223 p v1) < 0 then (
    let p2 : PM := pI p 12 1 0 (cn 1)
    if (F223 p v1) < 0 then (
      ((cn 0), p2))
    else (
      ((p2.1 13 17 ((F223 p v1)).toNatClampNeg), p2)))
  else (
    let p1 : PM := pI p 12 1 0 (cn 0)
    if (F223 p v1) < 0 then (
      ((cn 0), p1))
    else (
      ((p1.1 13 17 ((F223 p v1)).toNatClampNeg), p1)))
noncomputable def v12_rest (p : PM) (v1 : Int32) : Int32 × PM := bv12_rest v12_placeOf p v1
noncomputable def bg12_rest (F223 : PM → Int32 → Int32) (G223 : PM → Int32 → Prop) (p : PM) (v1 : Int32) : Prop :=
  (G223 p v1) ∧ (
  if (F223 p v1) < 0 then (
    let p2 : PM := pI p 12 1 0 (cn 1)
    if (F223 p v1) < 0 then (
      True)
    else (
      (inb (F223 p v1) 44) ∧ (
      True)))
  else (
    let p1 : PM := pI p 12 1 0 (cn 0)
    if (F223 p v1) < 0 then (
      True)
    else (
      (inb (F223 p v1) 44) ∧ (
      True))))
noncomputable def g12_rest (p : PM) (v1 : Int32) : Prop := bg12_rest v12_placeOf g12_placeOf p v1
noncomputable def bv12_priceOf (F223 : PM → Int32 → Int32) (p : PM) (v1 : Int32) : Int32 × PM :=
  if (F223 p v1) < 0 then (
    let p2 : PM := pI p 12 1 0 (cn 1)
    if (F223 p v1) < 0 then (
      ((cn 0), p2))
    else (
      if (p2.1 13 24 ((F223 p v1)).toNatClampNeg) = (cn 1) then (
        if (p2.1 15 5 ((F223 p v1)).toNatClampNeg) = 0 then (
          ((p2.1 13 25 ((F223 p v1)).toNatClampNeg), p2))
        else (
          ((cn (-100000)), p2)))
      else (
        ((cn (-100000)), p2))))
  else (
    let p1 : PM := pI p 12 1 0 (cn 0)
    if (F223 p v1) < 0 then (
      ((cn 0), p1))
    else (
      if (p1.1 13 24 ((F223 p v1)).toNatClampNeg) = (cn 1) then (
        if (p1.1 15 5 ((F223 p v1)).toNatClampNeg) = 0 then (
          ((p1.1 13 25 ((F223 p v1)).toNatClampNeg), p1))
        else (
          ((cn (-100000)), p1)))
      else (
        ((cn (-100000)), p1))))
noncomputable def v12_priceOf (p : PM) (v1 : Int32) : Int32 × PM := bv12_priceOf v12_placeOf p v1
noncomputable def bg12_priceOf (F223 : PM → Int32 → Int32) (G223 : PM → Int32 → Prop) (p : PM) (v1 : Int32) : Prop :=
  (G223 p v1) ∧ (
  if (F223 p v1) < 0 then (
    let p2 : PM := pI p 12 1 0 (cn 1)
    if (F223 p v1) < 0 then (
      True)
    else (
      (inb (F223 p v1) 44) ∧ (
      if (p2.1 13 24 ((F223 p v1)).toNatClampNeg) = (cn 1) then (
        (inb (F223 p v1) 44) ∧ (
        if (p2.1 15 5 ((F223 p v1)).toNatClampNeg) = 0 then (
          (inb (F223 p v1) 44) ∧ (
          True))
        else (
          True)))
      else (
        True))))
  else (
    let p1 : PM := pI p 12 1 0 (cn 0)
    if (F223 p v1) < 0 then (
      True)
    else (
      (inb (F223 p v1) 44) ∧ (
      if (p1.1 13 24 ((F223 p v1)).toNatClampNeg) = (cn 1) then (
        (inb (F223 p v1) 44) ∧ (
        if (p1.1 15 5 ((F223 p v1)).toNatClampNeg) = 0 then (
          (inb (F223 p v1) 44) ∧ (
          True))
        else (
          True)))
      else (
        True)))))
noncomputable def g12_priceOf (p : PM) (v1 : Int32) : Prop := bg12_priceOf v12_placeOf g12_placeOf p v1
noncomputable def bv12_last (F354 : PM → Int32 → Int32 × PM) (p : PM) (v1 : Int32) (v2 : Int32) : Int32 × PM :=
  let r1 : Int32 × PM := F354 p v1
  if r1.1 = 0 then (
    ((cn 0), r1.2))
  else (
    if v2 = 0 then (
      ((r1.2.1 13 10 (v1).toNatClampNeg), r1.2))
    else (
      ((r1.2.1 13 11 (v1).toNatClampNeg), r1.2)))
noncomputable def v12_last (p : PM) (v1 : Int32) (v2 : Int32) : Int32 × PM := bv12_last v12_isBook p v1 v2
noncomputable def bg12_last (F354 : PM → Int32 → Int32 × PM) (G354 : PM → Int32 → Prop) (p : PM) (v1 : Int32) (v2 : Int32) : Prop :=
  (G354 p v1) ∧ (
  let r1 : Int32 × PM := F354 p v1
  if r1.1 = 0 then (
    True)
  else (
    if v2 = 0 then (
      (inb v1 6) ∧ (
      True))
    else (
      (inb v1 6) ∧ (
      True))))
noncomputable def g12_last (p : PM) (v1 : Int32) (v2 : Int32) : Prop := bg12_last v12_isBook g12_isBook p v1 v2
noncomputable def bv12_endOf (F354 : PM → Int32 → Int32 × PM) (p : PM) (v1 : Int32) : Int32 × PM :=
  let r1 : Int32 × PM := F354 p v1
  if r1.1 = 0 then (
    ((cn 0), r1.2))
  else (
    ((r1.2.1 13 12 (v1).toNatClampNeg), r1.2))
noncomputable def v12_endOf (p : PM) (v1 : Int32) : Int32 × PM := bv12_endOf v12_isBook p v1
noncomputable def bg12_endOf (F354 : PM → Int32 → Int32 × PM) (G354 : PM → Int32 → Prop) (p : PM) (v1 : Int32) : Prop :=
  (G354 p v1) ∧ (
  let r1 : Int32 × PM := F354 p v1
  if r1.1 = 0 then (
    True)
  else (
    (inb v1 6) ∧ (
    True)))
noncomputable def g12_endOf (p : PM) (v1 : Int32) : Prop := bg12_endOf v12_isBook g12_isBook p v1
noncomputable def bv12_indicated (F218 : PM → Int32 → Int32) (F269 : PM → Int32 → PM) (F354 : PM → Int32 → Int32 × PM) (p : PM) (v1 : Int32) (v2 : Int32) : Int32 × PM :=
  let r1 : Int32 × PM := F354 p v1
  if r1.1 = 0 then (
    ((cn 0), r1.2))
  else (
    let p2 : PM := pI r1.2 12 1 65 (cn (-100000))
    let p3 : PM := pI p2 12 1 64 (cn 0)
    if (F218 p3 v1) = 0 then (
      let p4 : PM := F269 p3 v1
      if v2 = 0 then (
        ((p4.1 12 1 65), p4))
      else (
        ((p4.1 12 1 64), p4)))
    else (
      if v2 = 0 then (
        ((p3.1 12 1 65), p3))
      else (
        ((p3.1 12 1 64), p3))))
noncomputable def v12_indicated (p : PM) (v1 : Int32) (v2 : Int32) : Int32 × PM := bv12_indicated v12_isOpen v12_finds v12_isBook p v1 v2
noncomputable def bg12_indicated (F218 : PM → Int32 → Int32) (G218 : PM → Int32 → Prop) (F269 : PM → Int32 → PM) (G269 : PM → Int32 → Prop) (F354 : PM → Int32 → Int32 × PM) (G354 : PM → Int32 → Prop) (p : PM) (v1 : Int32) (v2 : Int32) : Prop :=
  (G354 p v1) ∧ (
  let r1 : Int32 × PM := F354 p v1
  if r1.1 = 0 then (
    True)
  else (
    let p2 : PM := pI r1.2 12 1 65 (cn (-100000))
    let p3 : PM := pI p2 12 1 64 (cn 0)
    (G218 p3 v1) ∧ (
    if (F218 p3 v1) = 0 then (
      (G269 p3 v1) ∧ (
      let p4 : PM := F269 p3 v1
      if v2 = 0 then (
        True)
      else (
        True)))
    else (
      if v2 = 0 then (
        True)
      else (
        True)))))
noncomputable def g12_indicated (p : PM) (v1 : Int32) (v2 : Int32) : Prop := bg12_indicated v12_isOpen g12_isOpen v12_finds g12_finds v12_isBook g12_isBook p v1 v2
noncomputable def bv12_trades (p : PM) : Int32 × PM :=
  let p1 : PM := pI p 12 1 0 (cn 0)
  ((p1.1 12 1 48), p1)
noncomputable def v12_trades (p : PM) : Int32 × PM := bv12_trades p
noncomputable def bg12_trades (p : PM) : Prop :=
  let p1 : PM := pI p 12 1 0 (cn 0)
  True
noncomputable def g12_trades (p : PM) : Prop := bg12_trades p
noncomputable def bv12_trade_27 (p : PM) (v1 : Int32) (v2 : Int32) (s0 : Int32) : Int32 × PM :=
  let p1 : PM := pI p 12 1 0 s0
  if (p1.1 12 1 0) = 0 then (
    if v2 = 0 then (
      ((p1.1 13 30 ((irm v1 (cn 60))).toNatClampNeg), p1))
    else (
      if v2 = (cn 1) then (
        ((p1.1 13 31 ((irm v1 (cn 60))).toNatClampNeg), p1))
      else (
        if v2 = (cn 2) then (
          ((p1.1 13 32 ((irm v1 (cn 60))).toNatClampNeg), p1))
        else (
          if v2 = (cn 3) then (
            ((p1.1 13 33 ((irm v1 (cn 60))).toNatClampNeg), p1))
          else (
            if v2 = (cn 4) then (
              ((p1.1 13 34 ((irm v1 (cn 60))).toNatClampNeg), p1))
            else (
              if (p1.1 15 7 ((irm v1 (cn 60))).toNatClampNeg) = 0 then (
                ((cn 0), p1))
              else (
                ((cn 1), p1))))))))
  else (
    ((cn 0), p1))
