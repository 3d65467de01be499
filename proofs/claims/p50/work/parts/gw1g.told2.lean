/-! lots told by orders -/
theorem lq_v12_doQuote_130 {q : PM}  : ∀ (n : Nat) {p : PM} (c0 : Int32) (c1 : Int32) (c2 : Int32) (c3 : Int32) (c4 : Int32) (c5 : Int32), (-c4).toInt.natAbs = c4.toInt.natAbs → LR q p → LQ q (v12_doQuote_130 n p c0 c1 c2 c3 c4 c5).2 (2 * c4.toInt.natAbs) := by
  intro n
  induction n with
  | zero =>
    intro p c0 c1 c2 c3 c4 c5 hv h
    exact lq_lr h
  | succ n ih =>
    intro p c0 c1 c2 c3 c4 c5 hv h
    rw [ev12_doQuote_130]
    unfold bv12_doQuote_130
    repeat' first
      | split
      | dsimp only
      | with_reducible exact h
      | with_reducible exact lq_lr h
      | with_reducible exact hv
      | with_reducible exact rfl
      | with_reducible refine lq_new2 hv ?_
      | with_reducible refine lq_new2 rfl ?_
      | with_reducible refine lq_pre ?_ (lq_new _ _ _ _ _ _ _ _)
      | with_reducible refine lr_12 (by decide) ?_
      | with_reducible refine lr_13 ?_
      | with_reducible refine lr_15 ?_
      | with_reducible apply ih
      | with_reducible refine lq_12 (by decide) ?_
      | with_reducible refine lq_13 ?_
      | with_reducible refine lq_15 ?_
      | with_reducible refine lq_pJ ?_
      | with_reducible refine lq_of (lr_v12_enters _ (lr_refl _)) ?_
theorem lq_v12_doQuote_60 {q : PM}  {p : PM} (v1 : Int32) (v2 : Int32) (v3 : Int32) (v4 : Int32) (v5 : Int32) (s0 : Int32)  (hv : (-v5).toInt.natAbs = v5.toInt.natAbs) (h : LR q p) : LQ q (v12_doQuote_60 p v1 v2 v3 v4 v5 s0).2 (2 * v5.toInt.natAbs) := by
  unfold v12_doQuote_60 bv12_doQuote_60
  repeat' first
    | split
    | dsimp only
    | with_reducible exact h
    | with_reducible exact lq_lr h
    | with_reducible exact hv
    | with_reducible exact rfl
    | with_reducible refine lq_new2 hv ?_
    | with_reducible refine lq_new2 rfl ?_
    | with_reducible refine lq_pre ?_ (lq_new _ _ _ _ _ _ _ _)
    | with_reducible refine lr_12 (by decide) ?_
    | with_reducible refine lr_13 ?_
    | with_reducible refine lr_15 ?_
    | with_reducible refine lq_12 (by decide) ?_
    | with_reducible refine lq_13 ?_
    | with_reducible refine lq_15 ?_
    | with_reducible refine lq_pJ ?_
    | with_reducible apply lq_v12_doQuote_130
theorem lq_v12_doQuote {q : PM}  {p : PM} (v1 : Int32) (v2 : Int32) (v3 : Int32) (v4 : Int32) (v5 : Int32)  (hv : (-v5).toInt.natAbs = v5.toInt.natAbs) (h : LR q p) : LQ q (v12_doQuote p v1 v2 v3 v4 v5).2 (2 * v5.toInt.natAbs) := by
  unfold v12_doQuote bv12_doQuote
  repeat' first
    | split
    | dsimp only
    | with_reducible exact h
    | with_reducible exact lq_lr h
    | with_reducible exact hv
    | with_reducible exact rfl
    | with_reducible refine lq_new2 hv ?_
    | with_reducible refine lq_new2 rfl ?_
    | with_reducible refine lq_pre ?_ (lq_new _ _ _ _ _ _ _ _)
    | with_reducible refine lr_12 (by decide) ?_
    | with_reducible refine lr_13 ?_
    | with_reducible refine lr_15 ?_
    | with_reducible refine lq_12 (by decide) ?_
    | with_reducible refine lq_13 ?_
    | with_reducible refine lq_15 ?_
    | with_reducible refine lq_pJ ?_
    | with_reducible apply lq_v12_doQuote_60
