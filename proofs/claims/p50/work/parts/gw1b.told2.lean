/-! lots told by orders -/
theorem lq_v12_doLimit_121 {q : PM}  {p : PM} (v1 : Int32) (v2 : Int32) (v3 : Int32) (v4 : Int32) (v5 : Int32) (v6 : Int32)  (h : LR q p) : LQ q (v12_doLimit_121 p v1 v2 v3 v4 v5 v6).2 v4.toInt.natAbs := by
  unfold v12_doLimit_121 bv12_doLimit_121
  repeat' first
    | split
    | dsimp only
    | with_reducible exact h
    | with_reducible exact lq_lr h
    | with_reducible refine lq_pre ?_ (lq_new _ _ _ _ _ _ _ _)
    | with_reducible refine lr_12 (by decide) ?_
    | with_reducible refine lr_13 ?_
    | with_reducible refine lr_15 ?_
    | with_reducible refine lq_12 (by decide) ?_
    | with_reducible refine lq_13 ?_
    | with_reducible refine lq_15 ?_
    | with_reducible refine lq_pJ ?_
    | with_reducible refine lq_of (lr_v12_enters _ (lr_refl _)) ?_
theorem lq_v12_doLimit_75 {q : PM}  {p : PM} (v1 : Int32) (v2 : Int32) (v3 : Int32) (v4 : Int32) (v5 : Int32) (v6 : Int32) (s0 : Int32)  (h : LR q p) : LQ q (v12_doLimit_75 p v1 v2 v3 v4 v5 v6 s0).2 v4.toInt.natAbs := by
  unfold v12_doLimit_75 bv12_doLimit_75
  repeat' first
    | split
    | dsimp only
    | with_reducible exact h
    | with_reducible exact lq_lr h
    | with_reducible refine lq_pre ?_ (lq_new _ _ _ _ _ _ _ _)
    | with_reducible refine lr_12 (by decide) ?_
    | with_reducible refine lr_13 ?_
    | with_reducible refine lr_15 ?_
    | with_reducible refine lq_12 (by decide) ?_
    | with_reducible refine lq_13 ?_
    | with_reducible refine lq_15 ?_
    | with_reducible refine lq_pJ ?_
    | with_reducible apply lq_v12_doLimit_121
theorem lq_v12_doLimit_70 {q : PM}  {p : PM} (v1 : Int32) (v2 : Int32) (v3 : Int32) (v4 : Int32) (v5 : Int32) (v6 : Int32)  (h : LR q p) : LQ q (v12_doLimit_70 p v1 v2 v3 v4 v5 v6).2 v4.toInt.natAbs := by
  unfold v12_doLimit_70 bv12_doLimit_70
  repeat' first
    | split
    | dsimp only
    | with_reducible exact h
    | with_reducible exact lq_lr h
    | with_reducible refine lq_pre ?_ (lq_new _ _ _ _ _ _ _ _)
    | with_reducible refine lr_12 (by decide) ?_
    | with_reducible refine lr_13 ?_
    | with_reducible refine lr_15 ?_
    | with_reducible refine lq_12 (by decide) ?_
    | with_reducible refine lq_13 ?_
    | with_reducible refine lq_15 ?_
    | with_reducible refine lq_pJ ?_
    | with_reducible apply lq_v12_doLimit_75
theorem lq_v12_doLimit {q : PM}  {p : PM} (v1 : Int32) (v2 : Int32) (v3 : Int32) (v4 : Int32) (v5 : Int32) (v6 : Int32)  (h : LR q p) : LQ q (v12_doLimit p v1 v2 v3 v4 v5 v6).2 v4.toInt.natAbs := by
  unfold v12_doLimit bv12_doLimit
  repeat' first
    | split
    | dsimp only
    | with_reducible exact h
    | with_reducible exact lq_lr h
    | with_reducible refine lq_pre ?_ (lq_new _ _ _ _ _ _ _ _)
    | with_reducible refine lr_12 (by decide) ?_
    | with_reducible refine lr_13 ?_
    | with_reducible refine lr_15 ?_
    | with_reducible refine lq_12 (by decide) ?_
    | with_reducible refine lq_13 ?_
    | with_reducible refine lq_15 ?_
    | with_reducible refine lq_pJ ?_
    | with_reducible apply lq_v12_doLimit_70
    | with_reducible apply lq_v12_doLimit_75
