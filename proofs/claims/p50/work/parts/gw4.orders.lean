/-! orders keep prices low -/
section LowO
variable {q p : PM} {M : Nat → Int}
theorem pl_new3 (v1 v2 v3 v4 v5 v6 v7 : Int32) (hv : -100000 ≤ v4.toInt ∧ v4.toInt ≤ hi v2 8 108) : ∀ (n : Nat) (v8 : Int32) (p : PM), PrL p M → PrL (v12_newOrder_3 n p v1 v2 v3 v4 v5 v6 v7 v8).2 M := by
  intro n
  induction n with
  | zero =>
    intro v8 p h
    exact h
  | succ n ih =>
    intro v8 p h
    have key : ∀ (t r1 r2 r3 w : Int32) (x : Nat), PrL (pI (pI (pI (pI (pI (pI (pI (pI (pI (pI (pI (pI (pI (pI (pI (pI (pI p 15 3 x (cn 1)) 13 14 x r1) 12 1 39 r2) 13 15 x v1) 13 16 x v2) 15 4 x t) 13 17 x r3) 15 5 x v5) 13 18 x v4) 13 19 x v6) 13 20 x v7) 13 21 x r3) 13 22 x r3) 13 24 x (cn 2)) 13 28 x (cn (-1))) 15 6 x (cn 0)) 12 1 95 w) M := by
      intro t r1 r2 r3 w x
      obtain ⟨Z, hZ⟩ : ∃ Z, pI (pI (pI (pI (pI (pI (pI (pI (pI (pI (pI (pI (pI (pI (pI (pI (pI p 15 3 x (cn 1)) 13 14 x r1) 12 1 39 r2) 13 15 x v1) 13 16 x v2) 15 4 x t) 13 17 x r3) 15 5 x v5) 13 18 x v4) 13 19 x v6) 13 20 x v7) 13 21 x r3) 13 22 x r3) 13 24 x (cn 2)) 13 28 x (cn (-1))) 15 6 x (cn 0)) 12 1 95 w = Z := ⟨_, rfl⟩
      rw [hZ]
      have e : ∀ j, (j < 14 ∨ 28 < j ∨ j = 25 ∨ j = 26) → Z.1 13 j = p.1 13 j := fun j hj => by
        funext s
        rw [← hZ]
        simp (decide := true) only [pI_1, u3_k, not_false_eq_true, u3_i (show ¬ j = 14 by omega), u3_i (show ¬ j = 15 by omega), u3_i (show ¬ j = 16 by omega), u3_i (show ¬ j = 17 by omega), u3_i (show ¬ j = 18 by omega), u3_i (show ¬ j = 19 by omega), u3_i (show ¬ j = 20 by omega), u3_i (show ¬ j = 21 by omega), u3_i (show ¬ j = 22 by omega), u3_i (show ¬ j = 24 by omega), u3_i (show ¬ j = 28 by omega)]
      have es : ∀ j s, ¬ s = x → Z.1 13 j s = p.1 13 j s := fun j s hs => by
        rw [← hZ]
        simp (decide := true) only [pI_1, u3_k, not_false_eq_true, u3_s hs]
      have e8 : Z.1 15 8 = p.1 15 8 := by
        funext s
        rw [← hZ]
        simp (decide := true) only [pI_1, u3_k, u3_i, not_false_eq_true]
      have x24 : Z.1 13 24 x = cn 2 := by
        rw [← hZ]
        simp (decide := true) only [pI_1, u3_same, u3_k, u3_i, not_false_eq_true]
      have x18 : Z.1 13 18 x = v4 := by
        rw [← hZ]
        simp (decide := true) only [pI_1, u3_same, u3_k, u3_i, not_false_eq_true]
      have x16 : Z.1 13 16 x = v2 := by
        rw [← hZ]
        simp (decide := true) only [pI_1, u3_same, u3_k, u3_i, not_false_eq_true]
      obtain ⟨h1, h2, h3, h4, h5⟩ := h
      unfold PrL
      rw [e 25 (by omega), e 26 (by omega), e 10 (by omega), e 11 (by omega), e 33 (by omega), e 30 (by omega), e8]
      refine ⟨fun i hi2 => ?_, fun i => ?_, h3, h4, h5⟩
      · by_cases ei : i = x
        · rw [ei, x24] at hi2
          exact absurd hi2 (by decide)
        · rw [es 24 i ei] at hi2
          rw [es 16 i ei, es 19 i ei]
          exact h1 i hi2
      · by_cases ei : i = x
        · rw [ei, x18, x16]
          exact hv
        · rw [es 18 i ei, es 16 i ei]
          exact h2 i
    have r17 : ∀ (P : PM) (x : Nat) (z a b c d e : Int32), True := fun _ _ _ _ _ _ _ _ => trivial
    rw [ev12_newOrder_3]
    unfold bv12_newOrder_3
    split
    · split
      · have k := key (cn 1) (p.1 12 1 39) (p.1 12 1 39 + cn 1) (v12_abs p v3) (p.1 12 1 95 + v12_abs p v3) v8.toNatClampNeg
        simp (decide := true) only [pI_1, u3_same, u3_k, u3_i, not_false_eq_true, abs_aB] at k ⊢
        exact k
      · have k := key (cn 0) (p.1 12 1 39) (p.1 12 1 39 + cn 1) (v12_abs p v3) (p.1 12 1 95 + v12_abs p v3) v8.toNatClampNeg
        simp (decide := true) only [pI_1, u3_same, u3_k, u3_i, not_false_eq_true, abs_aB] at k ⊢
        exact k
    · exact ih _ p h
theorem pl_new {v1 v2 v3 v4 v5 v6 v7 : Int32} (hv : -100000 ≤ v4.toInt ∧ v4.toInt ≤ hi v2 8 108) (h : PrL p M) : PrL (v12_newOrder p v1 v2 v3 v4 v5 v6 v7).2 M := by
  unfold v12_newOrder bv12_newOrder
  exact pl_new3 _ _ _ _ _ _ _ hv _ _ _ h
theorem pl_of (h : PrF p q M) : PrL q M := h.2
theorem pl_12 {s : Nat} {v : Int32} (h : PrL p M) : PrL (pI p 12 1 s v) M := (pf_12 (pf_refl h)).2
theorem pl_13 {i s : Nat} {v : Int32} (hi : ¬ (i = 16 ∨ i = 24 ∨ i = 25 ∨ i = 19 ∨ i = 18 ∨ i = 26 ∨ i = 10 ∨ i = 11 ∨ i = 33 ∨ i = 30)) (h : PrL p M) : PrL (pI p 13 i s v) M := (pf_13 hi (pf_refl h)).2
theorem pl_15 {i s : Nat} {v : Int32} (hi : ¬ i = 8) (h : PrL p M) : PrL (pI p 15 i s v) M := (pf_15 hi (pf_refl h)).2
theorem pl_26 {s : Nat} {v : Int32} (hv : 0 ≤ v.toInt ∧ v.toInt ≤ 2) (h : PrL p M) : PrL (pI p 13 26 s v) M := (pf_26 hv (pf_refl h)).2
theorem pl_enters (hM : ∀ c, 116 ≤ M c) (v : Int32) (h : PrL p M) : PrL (v12_enters p v) M := (pf_v12_enters hM v (pf_refl h)).2
theorem pl_mkt (b : Int32) : -100000 ≤ (cn 0).toInt ∧ (cn 0).toInt ≤ hi b 8 108 := by
  have e : (cn 0).toInt = 0 := by decide
  rw [e]
  refine ⟨by decide, ?_⟩
  unfold hi
  split <;> decide
end LowO
theorem pl_v12_doLimit_121 {p : PM} {M : Nat → Int} (hM : ∀ c, 116 ≤ M c) (v1 : Int32) (v2 : Int32) (v3 : Int32) (v4 : Int32) (v5 : Int32) (v6 : Int32) (hv : -100000 ≤ v3.toInt ∧ v3.toInt ≤ hi v2 8 108) (h : PrL p M) : PrL (v12_doLimit_121 p v1 v2 v3 v4 v5 v6).2 M := by
  unfold v12_doLimit_121 bv12_doLimit_121
  repeat' first
    | split
    | dsimp only
    | with_reducible exact h
    | with_reducible exact hM
    | with_reducible exact hv
    | with_reducible refine pl_12 ?_
    | with_reducible refine pl_13 (by decide) ?_
    | with_reducible refine pl_15 (by decide) ?_
    | with_reducible refine pl_enters hM _ ?_
    | with_reducible refine pl_new hv ?_
theorem pl_v12_doLimit_75 {p : PM} {M : Nat → Int} (hM : ∀ c, 116 ≤ M c) (v1 : Int32) (v2 : Int32) (v3 : Int32) (v4 : Int32) (v5 : Int32) (v6 : Int32) (s0 : Int32) (hv : -100000 ≤ v3.toInt ∧ v3.toInt ≤ hi v2 8 108) (h : PrL p M) : PrL (v12_doLimit_75 p v1 v2 v3 v4 v5 v6 s0).2 M := by
  unfold v12_doLimit_75 bv12_doLimit_75
  repeat' first
    | split
    | dsimp only
    | with_reducible exact h
    | with_reducible exact hM
    | with_reducible exact hv
    | with_reducible refine pl_v12_doLimit_121 hM _ _ _ _ _ _ hv ?_
    | with_reducible refine pl_12 ?_
    | with_reducible refine pl_13 (by decide) ?_
    | with_reducible refine pl_15 (by decide) ?_
    | with_reducible refine pl_enters hM _ ?_
    | with_reducible refine pl_new hv ?_
theorem pl_v12_doLimit_70 {p : PM} {M : Nat → Int} (hM : ∀ c, 116 ≤ M c) (v1 : Int32) (v2 : Int32) (v3 : Int32) (v4 : Int32) (v5 : Int32) (v6 : Int32) (hv : -100000 ≤ v3.toInt ∧ v3.toInt ≤ hi v2 8 108) (h : PrL p M) : PrL (v12_doLimit_70 p v1 v2 v3 v4 v5 v6).2 M := by
  unfold v12_doLimit_70 bv12_doLimit_70
  repeat' first
    | split
    | dsimp only
    | with_reducible exact h
    | with_reducible exact hM
    | with_reducible exact hv
    | with_reducible refine pl_v12_doLimit_75 hM _ _ _ _ _ _ _ hv ?_
    | with_reducible refine pl_12 ?_
    | with_reducible refine pl_13 (by decide) ?_
    | with_reducible refine pl_15 (by decide) ?_
    | with_reducible refine pl_enters hM _ ?_
    | with_reducible refine pl_new hv ?_
theorem pl_v12_doLimit {p : PM} {M : Nat → Int} (hM : ∀ c, 116 ≤ M c) (v1 : Int32) (v2 : Int32) (v3 : Int32) (v4 : Int32) (v5 : Int32) (v6 : Int32) (hv : -100000 ≤ v3.toInt ∧ v3.toInt ≤ hi v2 8 108) (h : PrL p M) : PrL (v12_doLimit p v1 v2 v3 v4 v5 v6).2 M := by
  unfold v12_doLimit bv12_doLimit
  repeat' first
    | split
    | dsimp only
    | with_reducible exact h
    | with_reducible exact hM
    | with_reducible exact hv
    | with_reducible refine pl_v12_doLimit_75 hM _ _ _ _ _ _ _ hv ?_
    | with_reducible refine pl_v12_doLimit_70 hM _ _ _ _ _ _ hv ?_
    | with_reducible refine pl_12 ?_
    | with_reducible refine pl_13 (by decide) ?_
    | with_reducible refine pl_15 (by decide) ?_
    | with_reducible refine pl_enters hM _ ?_
    | with_reducible refine pl_new hv ?_
theorem pl_v12_doMarket {p : PM} {M : Nat → Int} (hM : ∀ c, 116 ≤ M c) (v1 : Int32) (v2 : Int32) (v3 : Int32)  (h : PrL p M) : PrL (v12_doMarket p v1 v2 v3).2 M := by
  unfold v12_doMarket bv12_doMarket
  repeat' first
    | split
    | dsimp only
    | with_reducible exact h
    | with_reducible exact hM
    | with_reducible refine pl_12 ?_
    | with_reducible refine pl_13 (by decide) ?_
    | with_reducible refine pl_15 (by decide) ?_
    | with_reducible refine pl_enters hM _ ?_
    | with_reducible refine pl_new (pl_mkt _) ?_
theorem pl_v12_doIceberg {p : PM} {M : Nat → Int} (hM : ∀ c, 116 ≤ M c) (v1 : Int32) (v2 : Int32) (v3 : Int32) (v4 : Int32) (v5 : Int32) (hv : -100000 ≤ v3.toInt ∧ v3.toInt ≤ hi v2 8 108) (h : PrL p M) : PrL (v12_doIceberg p v1 v2 v3 v4 v5).2 M := by
  unfold v12_doIceberg bv12_doIceberg
  repeat' first
    | split
    | dsimp only
    | with_reducible exact h
    | with_reducible exact hM
    | with_reducible exact hv
    | with_reducible refine pl_12 ?_
    | with_reducible refine pl_13 (by decide) ?_
    | with_reducible refine pl_15 (by decide) ?_
    | with_reducible refine pl_enters hM _ ?_
    | with_reducible refine pl_new hv ?_
theorem pl_v12_doPeg {p : PM} {M : Nat → Int} (hM : ∀ c, 116 ≤ M c) (v1 : Int32) (v2 : Int32) (v3 : Int32) (v4 : Int32) (v5 : Int32) (hv : -100000 ≤ v3.toInt ∧ v3.toInt ≤ hi v2 8 108) (ho : 0 ≤ v5.toInt ∧ v5.toInt ≤ 2) (h : PrL p M) : PrL (v12_doPeg p v1 v2 v3 v4 v5).2 M := by
  unfold v12_doPeg bv12_doPeg
  repeat' first
    | split
    | dsimp only
    | with_reducible exact h
    | with_reducible exact hM
    | with_reducible exact hv
    | with_reducible refine pl_26 ho ?_
    | with_reducible refine pl_12 ?_
    | with_reducible refine pl_13 (by decide) ?_
    | with_reducible refine pl_15 (by decide) ?_
    | with_reducible refine pl_enters hM _ ?_
    | with_reducible refine pl_new hv ?_
theorem pl_v12_doStop_17 {p : PM} {M : Nat → Int} (hM : ∀ c, 116 ≤ M c) (v1 : Int32) (v2 : Int32) (v3 : Int32) (v4 : Int32) (v5 : Int32) (hv : -100000 ≤ v4.toInt ∧ v4.toInt ≤ hi v2 8 108) (h : PrL p M) : PrL (v12_doStop_17 p v1 v2 v3 v4 v5).2 M := by
  unfold v12_doStop_17 bv12_doStop_17
  repeat' first
    | split
    | dsimp only
    | with_reducible exact h
    | with_reducible exact hM
    | with_reducible exact hv
    | with_reducible refine pl_12 ?_
    | with_reducible refine pl_13 (by decide) ?_
    | with_reducible refine pl_15 (by decide) ?_
    | with_reducible refine pl_enters hM _ ?_
    | with_reducible refine pl_new hv ?_
theorem pl_v12_doStop_53 {p : PM} {M : Nat → Int} (hM : ∀ c, 116 ≤ M c) (v1 : Int32) (v2 : Int32) (v3 : Int32) (v4 : Int32) (v5 : Int32) (hv : -100000 ≤ v4.toInt ∧ v4.toInt ≤ hi v2 8 108) (h : PrL p M) : PrL (v12_doStop_53 p v1 v2 v3 v4 v5).2 M := by
  unfold v12_doStop_53 bv12_doStop_53
  repeat' first
    | split
    | dsimp only
    | with_reducible exact h
    | with_reducible exact hM
    | with_reducible exact hv
    | with_reducible refine pl_12 ?_
    | with_reducible refine pl_13 (by decide) ?_
    | with_reducible refine pl_15 (by decide) ?_
    | with_reducible refine pl_enters hM _ ?_
    | with_reducible refine pl_new hv ?_
theorem pl_v12_doStop {p : PM} {M : Nat → Int} (hM : ∀ c, 116 ≤ M c) (v1 : Int32) (v2 : Int32) (v3 : Int32) (v4 : Int32) (v5 : Int32) (hv : -100000 ≤ v4.toInt ∧ v4.toInt ≤ hi v2 8 108) (h : PrL p M) : PrL (v12_doStop p v1 v2 v3 v4 v5).2 M := by
  unfold v12_doStop bv12_doStop
  repeat' first
    | split
    | dsimp only
    | with_reducible exact h
    | with_reducible exact hM
    | with_reducible exact hv
    | with_reducible refine pl_v12_doStop_17 hM _ _ _ _ _ hv ?_
    | with_reducible refine pl_v12_doStop_53 hM _ _ _ _ _ hv ?_
    | with_reducible refine pl_12 ?_
    | with_reducible refine pl_13 (by decide) ?_
    | with_reducible refine pl_15 (by decide) ?_
    | with_reducible refine pl_enters hM _ ?_
    | with_reducible refine pl_new hv ?_
theorem pl_v12_doQuote_130 {M : Nat → Int} (hM : ∀ c, 116 ≤ M c) (v1 v2 v3 v4 v5 : Int32) (h1 : -100000 ≤ v3.toInt ∧ v3.toInt ≤ hi v2 8 108) (h2 : -100000 ≤ v4.toInt ∧ v4.toInt ≤ hi v2 8 108) : ∀ (n : Nat) (v6 : Int32) (p : PM), PrL p M → PrL (v12_doQuote_130 n p v1 v2 v3 v4 v5 v6).2 M := by
  intro n
  induction n with
  | zero =>
    intro v6 p h
    exact h
  | succ n ih =>
    intro v6 p h
    rw [ev12_doQuote_130]
    unfold bv12_doQuote_130
    split
    · split
      · exact ih _ _ (pl_15 (by decide) h)
      · split
        · split
          · split
            · exact ih _ _ (pl_15 (by decide) h)
            · exact ih _ _ (pl_15 (by decide) h)
          · exact ih _ _ (pl_15 (by decide) h)
        · exact ih _ _ (pl_15 (by decide) h)
    · have b : PrL (pI (pI p 13 4 v1.toNatClampNeg (cn 0)) 15 1 v1.toNatClampNeg (cn 0)) M := pl_15 (by decide) (pl_13 (by decide) h)
      dsimp only
      generalize pI (pI p 13 4 v1.toNatClampNeg (cn 0)) 15 1 v1.toNatClampNeg (cn 0) = p2 at b ⊢
      have n1 : PrL (v12_newOrder p2 v1 v2 v5 v3 (cn 0) (cn 4) (p2.1 12 1 18)).2 M := pl_new h1 b
      generalize v12_newOrder p2 v1 v2 v5 v3 (cn 0) (cn 4) (p2.1 12 1 18) = r3 at n1 ⊢
      have n2 := pl_enters hM r3.1 n1
      generalize v12_enters r3.2 r3.1 = p4 at n2 ⊢
      split
      · have n3 : PrL (v12_newOrder p4 v1 v2 (-v5) v4 (cn 0) (cn 4) (p4.1 12 1 18)).2 M := pl_new h2 n2
        generalize v12_newOrder p4 v1 v2 (-v5) v4 (cn 0) (cn 4) (p4.1 12 1 18) = r5 at n3 ⊢
        exact pl_enters hM r5.1 n3
      · exact pl_12 n2
theorem pl_v12_doQuote_60 {p : PM} {M : Nat → Int} (hM : ∀ c, 116 ≤ M c) (v1 v2 v3 v4 v5 s0 : Int32) (h1 : -100000 ≤ v3.toInt ∧ v3.toInt ≤ hi v2 8 108) (h2 : -100000 ≤ v4.toInt ∧ v4.toInt ≤ hi v2 8 108) (h : PrL p M) : PrL (v12_doQuote_60 p v1 v2 v3 v4 v5 s0).2 M := by
  unfold v12_doQuote_60 bv12_doQuote_60
  dsimp only
  repeat' first
    | split
    | exact pl_v12_doQuote_130 hM _ _ _ _ _ h1 h2 _ _ _ (pl_12 h)
    | exact pl_v12_doQuote_130 hM _ _ _ _ _ h1 h2 _ _ _ (pl_12 (pl_12 h))
    | exact pl_12 h
    | exact pl_12 (pl_12 h)
theorem pl_v12_doQuote {p : PM} {M : Nat → Int} (hM : ∀ c, 116 ≤ M c) (v1 v2 v3 v4 v5 : Int32) (h1 : -100000 ≤ v3.toInt ∧ v3.toInt ≤ hi v2 8 108) (h2 : -100000 ≤ v4.toInt ∧ v4.toInt ≤ hi v2 8 108) (h : PrL p M) : PrL (v12_doQuote p v1 v2 v3 v4 v5).2 M := by
  unfold v12_doQuote bv12_doQuote
  repeat' first
    | split
    | exact pl_v12_doQuote_60 hM _ _ _ _ _ _ h1 h2 h
