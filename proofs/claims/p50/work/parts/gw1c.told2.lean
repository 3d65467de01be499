/-! lots told by orders -/
theorem lq_v12_doMarket {q : PM}  {p : PM} (v1 : Int32) (v2 : Int32) (v3 : Int32)  (h : LR q p) : LQ q (v12_doMarket p v1 v2 v3).2 v3.toInt.natAbs := by
  unfold v12_doMarket bv12_doMarket
  repeat' first
    | split
    | dsimp only
    | with_reducible exact h
    | with_reducible exact lq_lr h
    | with_reducible refine lq_pre ?_ (lq_new _ _ _ _ _ _ _ _)
    | with_reducible refine lr_12 (by decide) ?_
    | with_reducible refine lr_13 ?_
    | with_reducible refine lr_15 ?_
    | with_reducible refine lq_12 (by decide) ?_
    | with_reducible refine lq_13 ?_
    | with_reducible refine lq_15 ?_
    | with_reducible refine lq_pJ ?_
    | with_reducible refine lq_of (lr_v12_enters _ (lr_refl _)) ?_
