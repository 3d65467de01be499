/-! lots told by orders -/
theorem lq_mono {q p : PM} {M N : Nat} (hMN : M ≤ N) (h : LQ q p M) : LQ q p N := by
  obtain ⟨j, hj, e⟩ := h
  exact ⟨j, by omega, e⟩
theorem lq_v12_doQuote_130 {q : PM} : ∀ (n : Nat) {p : PM} (c0 : Int32) (c1 : Int32) (c2 : Int32) (c3 : Int32) (c4 : Int32) (c5 : Int32), (-c4).toInt.natAbs = c4.toInt.natAbs → LR q p → LQ q (v12_doQuote_130 n p c0 c1 c2 c3 c4 c5).2 (2 * c4.toInt.natAbs) := by
  intro n
  induction n with
  | zero =>
    intro p c0 c1 c2 c3 c4 c5 hv h
    exact lq_lr h
  | succ n ih =>
    intro p c0 c1 c2 c3 c4 c5 hv h
    rw [ev12_doQuote_130]
    unfold bv12_doQuote_130
    split
    · split
      · exact ih _ _ _ _ _ _ hv (lr_15 h)
      · split
        · split
          · split
            · exact ih _ _ _ _ _ _ hv (lr_15 h)
            · exact ih _ _ _ _ _ _ hv (lr_15 h)
          · exact ih _ _ _ _ _ _ hv (lr_15 h)
        · exact ih _ _ _ _ _ _ hv (lr_15 h)
    · have b : LR q (pI (pI p 13 4 c0.toNatClampNeg (cn 0)) 15 1 c0.toNatClampNeg (cn 0)) := lr_15 (lr_13 h)
      dsimp only
      generalize pI (pI p 13 4 c0.toNatClampNeg (cn 0)) 15 1 c0.toNatClampNeg (cn 0) = p2 at b ⊢
      have n1 := lq_pre b (lq_new p2 c0 c1 c4 c2 (cn 0) (cn 4) (p2.1 12 1 18))
      generalize v12_newOrder p2 c0 c1 c4 c2 (cn 0) (cn 4) (p2.1 12 1 18) = r3 at n1 ⊢
      have n2 := lq_of (lr_v12_enters r3.1 (lr_refl r3.2)) n1
      generalize v12_enters r3.2 r3.1 = p4 at n2 ⊢
      split
      · have n3 := lq_new2 (v1 := c0) (v2 := c1) (v3 := -c4) (v4 := c3) (v5 := cn 0) (v6 := cn 4) (v7 := p4.1 12 1 18) hv n2
        generalize v12_newOrder p4 c0 c1 (-c4) c3 (cn 0) (cn 4) (p4.1 12 1 18) = r5 at n3 ⊢
        exact lq_of (lr_v12_enters r5.1 (lr_refl r5.2)) n3
      · exact lq_12 (by decide) (lq_mono (by omega) n2)
theorem lq_v12_doQuote_60 {q : PM} {p : PM} (v1 : Int32) (v2 : Int32) (v3 : Int32) (v4 : Int32) (v5 : Int32) (s0 : Int32) (hv : (-v5).toInt.natAbs = v5.toInt.natAbs) (h : LR q p) : LQ q (v12_doQuote_60 p v1 v2 v3 v4 v5 s0).2 (2 * v5.toInt.natAbs) := by
  have a : ∀ (s : Nat) (w : Int32), ¬ s = 95 → LQ q (pI p 12 1 s w) (2 * v5.toInt.natAbs) := fun s w hs => lq_lr (lr_12 hs h)
  have b : ∀ (s s' : Nat) (w w' : Int32), ¬ s = 95 → ¬ s' = 95 → LQ q (pI (pI p 12 1 s w) 12 1 s' w') (2 * v5.toInt.natAbs) := fun s s' w w' hs hs' => lq_lr (lr_12 hs' (lr_12 hs h))
  have c : ∀ (w : Int32) (n : Nat) (x : Int32), LQ q (v12_doQuote_130 n (pI p 12 1 0 w) v1 v2 v3 v4 v5 x).2 (2 * v5.toInt.natAbs) := fun w n x => lq_v12_doQuote_130 n v1 v2 v3 v4 v5 x hv (lr_12 (by decide) h)
  have d : ∀ (w w' : Int32) (n : Nat) (x : Int32), LQ q (v12_doQuote_130 n (pI (pI p 12 1 0 w) 12 1 0 w') v1 v2 v3 v4 v5 x).2 (2 * v5.toInt.natAbs) := fun w w' n x => lq_v12_doQuote_130 n v1 v2 v3 v4 v5 x hv (lr_12 (by decide) (lr_12 (by decide) h))
  unfold v12_doQuote_60 bv12_doQuote_60
  dsimp only
  repeat' first
    | split
    | exact c _ _ _
    | exact d _ _ _ _
    | exact a _ _ (by decide)
    | exact b _ _ _ _ (by decide) (by decide)
theorem lq_v12_doQuote {q : PM} {p : PM} (v1 : Int32) (v2 : Int32) (v3 : Int32) (v4 : Int32) (v5 : Int32) (hv : (-v5).toInt.natAbs = v5.toInt.natAbs) (h : LR q p) : LQ q (v12_doQuote p v1 v2 v3 v4 v5).2 (2 * v5.toInt.natAbs) := by
  unfold v12_doQuote bv12_doQuote
  repeat' first
    | split
    | exact lq_v12_doQuote_60 _ _ _ _ _ _ hv h

