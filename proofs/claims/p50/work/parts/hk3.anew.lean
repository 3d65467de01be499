/-! begun anew, prices are low -/
theorem pf_v12_resets_230 {q : PM} {M : Nat → Int} (hM : ∀ c, 116 ≤ M c)  : ∀ (n : Nat) {p : PM} (c0 : Int32), PrF q p M → PrF q (v12_resets_230 n p c0) M := by
  intro n
  induction n with
  | zero =>
    intro p c0 h
    exact h
  | succ n ih =>
    intro p c0 h
    rw [ev12_resets_230]
    unfold bv12_resets_230
    repeat' first
      | with_reducible exact h
      | with_reducible apply ih
      | with_reducible exact hM
      | with_reducible refine pf_12 ?_
      | with_reducible refine pf_13 (by decide) ?_
      | with_reducible refine pf_15 (by decide) ?_
      | with_reducible refine pf_24 (by decide) ?_
      | with_reducible refine pf_pJ ?_
      | split
      | dsimp only
theorem pf_v12_resets_209 {q : PM} {M : Nat → Int} (hM : ∀ c, 116 ≤ M c)  : ∀ (n : Nat) {p : PM} (c0 : Int32), PrF q p M → PrF q (v12_resets_209 n p c0) M := by
  intro n
  induction n with
  | zero =>
    intro p c0 h
    exact h
  | succ n ih =>
    intro p c0 h
    rw [ev12_resets_209]
    unfold bv12_resets_209
    repeat' first
      | with_reducible exact h
      | with_reducible apply ih
      | with_reducible exact hM
      | with_reducible refine pf_12 ?_
      | with_reducible refine pf_13 (by decide) ?_
      | with_reducible refine pf_15 (by decide) ?_
      | with_reducible refine pf_24 (by decide) ?_
      | with_reducible refine pf_pJ ?_
      | with_reducible apply pf_v12_resets_230
      | split
      | dsimp only
theorem pf_v12_resets_188 {q : PM} {M : Nat → Int} (hM : ∀ c, 116 ≤ M c)  : ∀ (n : Nat) {p : PM} (c0 : Int32), PrF q p M → PrF q (v12_resets_188 n p c0) M := by
  intro n
  induction n with
  | zero =>
    intro p c0 h
    exact h
  | succ n ih =>
    intro p c0 h
    rw [ev12_resets_188]
    unfold bv12_resets_188
    repeat' first
      | with_reducible exact h
      | with_reducible apply ih
      | with_reducible exact hM
      | with_reducible refine pf_12 ?_
      | with_reducible refine pf_13 (by decide) ?_
      | with_reducible refine pf_15 (by decide) ?_
      | with_reducible refine pf_24 (by decide) ?_
      | with_reducible refine pf_pJ ?_
      | with_reducible apply pf_v12_resets_209
      | split
      | dsimp only
theorem pf_v12_resets_109 {q : PM} {M : Nat → Int} (hM : ∀ c, 116 ≤ M c) : ∀ (n : Nat) {p : PM} (c0 : Int32), PrF q p M → PrF q (v12_resets_109 n p c0) M := by
  intro n
  induction n with
  | zero =>
    intro p c0 h
    exact h
  | succ n ih =>
    intro p c0 h
    have a : ∀ (w : Int32), w.toInt ≤ 116 → ∀ {P : PM}, PrF q P M → PrF q (pI (pI P 13 10 c0.toNatClampNeg w) 13 11 c0.toNatClampNeg ((pI P 13 10 c0.toNatClampNeg w).1 13 10 c0.toNatClampNeg)) M := by
      intro w hw P hP
      rw [pI_at]
      exact pf_10 (Or.inr rfl) (fun c _ _ => Int.le_trans hw (hM c)) (pf_10 (Or.inl rfl) (fun c _ _ => Int.le_trans hw (hM c)) hP)
    rw [ev12_resets_109]
    unfold bv12_resets_109
    split
    · dsimp only
      split
      · exact ih _ (pf_13 (by decide) (a (cn 100) (by decide) (pf_13 (by decide) (pf_13 (by decide) (pf_13 (by decide) (pf_13 (by decide) h))))))
      · exact ih _ (pf_13 (by decide) (a (cn 0) (by decide) (pf_13 (by decide) (pf_13 (by decide) (pf_13 (by decide) (pf_13 (by decide) h))))))
    · exact pf_v12_resets_188 hM _ _ h
theorem pf_v12_resets_67 {q : PM} {M : Nat → Int} (hM : ∀ c, 116 ≤ M c)  : ∀ (n : Nat) {p : PM} (c0 : Int32), PrF q p M → PrF q (v12_resets_67 n p c0) M := by
  intro n
  induction n with
  | zero =>
    intro p c0 h
    exact h
  | succ n ih =>
    intro p c0 h
    rw [ev12_resets_67]
    unfold bv12_resets_67
    repeat' first
      | with_reducible exact h
      | with_reducible apply ih
      | with_reducible exact hM
      | with_reducible refine pf_12 ?_
      | with_reducible refine pf_13 (by decide) ?_
      | with_reducible refine pf_15 (by decide) ?_
      | with_reducible refine pf_24 (by decide) ?_
      | with_reducible refine pf_pJ ?_
      | with_reducible apply pf_v12_resets_109
      | split
      | dsimp only
theorem pf_v12_resets_44 {q : PM} {M : Nat → Int} (hM : ∀ c, 116 ≤ M c)  : ∀ (n : Nat) {p : PM} (c0 : Int32), PrF q p M → PrF q (v12_resets_44 n p c0) M := by
  intro n
  induction n with
  | zero =>
    intro p c0 h
    exact h
  | succ n ih =>
    intro p c0 h
    rw [ev12_resets_44]
    unfold bv12_resets_44
    repeat' first
      | with_reducible exact h
      | with_reducible apply ih
      | with_reducible exact hM
      | with_reducible refine pf_12 ?_
      | with_reducible refine pf_13 (by decide) ?_
      | with_reducible refine pf_15 (by decide) ?_
      | with_reducible refine pf_24 (by decide) ?_
      | with_reducible refine pf_pJ ?_
      | with_reducible apply pf_v12_resets_67
      | split
      | dsimp only
theorem pf_v12_resets_23 {q : PM} {M : Nat → Int} (hM : ∀ c, 116 ≤ M c)  : ∀ (n : Nat) {p : PM} (c0 : Int32), PrF q p M → PrF q (v12_resets_23 n p c0) M := by
  intro n
  induction n with
  | zero =>
    intro p c0 h
    exact h
  | succ n ih =>
    intro p c0 h
    rw [ev12_resets_23]
    unfold bv12_resets_23
    repeat' first
      | with_reducible exact h
      | with_reducible apply ih
      | with_reducible exact hM
      | with_reducible refine pf_12 ?_
      | with_reducible refine pf_13 (by decide) ?_
      | with_reducible refine pf_15 (by decide) ?_
      | with_reducible refine pf_24 (by decide) ?_
      | with_reducible refine pf_pJ ?_
      | with_reducible apply pf_v12_resets_44
      | split
      | dsimp only
theorem pf_v12_resets_2 {q : PM} {M : Nat → Int} (hM : ∀ c, 116 ≤ M c)  : ∀ (n : Nat) {p : PM} (c0 : Int32), PrF q p M → PrF q (v12_resets_2 n p c0) M := by
  intro n
  induction n with
  | zero =>
    intro p c0 h
    exact h
  | succ n ih =>
    intro p c0 h
    rw [ev12_resets_2]
    unfold bv12_resets_2
    repeat' first
      | with_reducible exact h
      | with_reducible apply ih
      | with_reducible exact hM
      | with_reducible refine pf_12 ?_
      | with_reducible refine pf_13 (by decide) ?_
      | with_reducible refine pf_15 (by decide) ?_
      | with_reducible refine pf_24 (by decide) ?_
      | with_reducible refine pf_pJ ?_
      | with_reducible apply pf_v12_resets_23
      | split
      | dsimp only
theorem pf_v12_resets {q : PM} {M : Nat → Int} (hM : ∀ c, 116 ≤ M c)  {p : PM}   (h : PrF q p M) : PrF q (v12_resets p) M := by
  unfold v12_resets bv12_resets z0Q
  repeat' first
    | with_reducible exact h
    | with_reducible exact hM
    | with_reducible refine pf_12 ?_
    | with_reducible refine pf_13 (by decide) ?_
    | with_reducible refine pf_15 (by decide) ?_
    | with_reducible refine pf_24 (by decide) ?_
    | with_reducible refine pf_pJ ?_
    | with_reducible apply pf_v12_resets_2
    | split
    | dsimp only
theorem pl_zero {M : Nat → Int} (hM : ∀ c, 116 ≤ M c) : PrL ((fun _ _ _ => 0, fun _ _ _ => 0, fun _ _ _ => 0) : PM) M := by
  have e : (0 : Int32).toInt = 0 := by decide
  have h1 : ∀ b x y, 0 ≤ x → 0 ≤ y → 0 ≤ hi b x y := by
    intro b x y hx hy
    unfold hi
    split
    · exact hx
    · exact hy
  refine ⟨fun i h => absurd h (show ¬ (0 : Int32) = cn 1 by decide), fun i => ?_, fun i => ?_, fun c hc => ?_, fun k _ => ⟨?_, fun c hc _ _ => ?_⟩⟩
  · show -100000 ≤ (0 : Int32).toInt ∧ (0 : Int32).toInt ≤ hi 0 8 108
    rw [e]
    exact ⟨by decide, h1 _ _ _ (by decide) (by decide)⟩
  · show 0 ≤ (0 : Int32).toInt ∧ (0 : Int32).toInt ≤ 2
    rw [e]
    decide
  · show (0 : Int32).toInt ≤ M c ∧ (0 : Int32).toInt ≤ M c
    have := hM c
    rw [e]
    omega
  · show 0 ≤ (0 : Int32).toInt ∧ (0 : Int32).toInt ≤ 5
    rw [e]
    decide
  · show (0 : Int32).toInt ≤ M c
    have := hM c
    rw [e]
    omega
theorem pl_start {M : Nat → Int} (hM : ∀ c, 116 ≤ M c) : PrL (v12_resets ((fun _ _ _ => 0, fun _ _ _ => 0, fun _ _ _ => 0) : PM)) M := (pf_v12_resets hM (pf_refl (pl_zero hM))).2
