/-! lots told by orders -/
theorem lq_v12_doStop_17 {q : PM}  {p : PM} (v1 : Int32) (v2 : Int32) (v3 : Int32) (v4 : Int32) (v5 : Int32)  (h : LR q p) : LQ q (v12_doStop_17 p v1 v2 v3 v4 v5).2 v5.toInt.natAbs := by
  unfold v12_doStop_17 bv12_doStop_17
  repeat' first
    | split
    | dsimp only
    | with_reducible exact h
    | with_reducible exact lq_lr h
    | with_reducible refine lq_pre ?_ (lq_new _ _ _ _ _ _ _ _)
    | with_reducible refine lr_12 (by decide) ?_
    | with_reducible refine lr_13 ?_
    | with_reducible refine lr_15 ?_
    | with_reducible refine lq_12 (by decide) ?_
    | with_reducible refine lq_13 ?_
    | with_reducible refine lq_15 ?_
    | with_reducible refine lq_pJ ?_
theorem lq_v12_doStop_53 {q : PM}  {p : PM} (v1 : Int32) (v2 : Int32) (v3 : Int32) (v4 : Int32) (v5 : Int32)  (h : LR q p) : LQ q (v12_doStop_53 p v1 v2 v3 v4 v5).2 v5.toInt.natAbs := by
  unfold v12_doStop_53 bv12_doStop_53
  repeat' first
    | split
    | dsimp only
    | with_reducible exact h
    | with_reducible exact lq_lr h
    | with_reducible refine lq_pre ?_ (lq_new _ _ _ _ _ _ _ _)
    | with_reducible refine lr_12 (by decide) ?_
    | with_reducible refine lr_13 ?_
    | with_reducible refine lr_15 ?_
    | with_reducible refine lq_12 (by decide) ?_
    | with_reducible refine lq_13 ?_
    | with_reducible refine lq_15 ?_
    | with_reducible refine lq_pJ ?_
theorem lq_v12_doStop {q : PM}  {p : PM} (v1 : Int32) (v2 : Int32) (v3 : Int32) (v4 : Int32) (v5 : Int32)  (h : LR q p) : LQ q (v12_doStop p v1 v2 v3 v4 v5).2 v5.toInt.natAbs := by
  unfold v12_doStop bv12_doStop
  repeat' first
    | split
    | dsimp only
    | with_reducible exact h
    | with_reducible exact lq_lr h
    | with_reducible refine lq_pre ?_ (lq_new _ _ _ _ _ _ _ _)
    | with_reducible refine lr_12 (by decide) ?_
    | with_reducible refine lr_13 ?_
    | with_reducible refine lr_15 ?_
    | with_reducible refine lq_12 (by decide) ?_
    | with_reducible refine lq_13 ?_
    | with_reducible refine lq_15 ?_
    | with_reducible refine lq_pJ ?_
    | with_reducible apply lq_v12_doStop_17
    | with_reducible apply lq_v12_doStop_53
