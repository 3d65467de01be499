/-! cash stays while a loss is covered, but the failed one's -/
/-- cash but that of b stays -/
def CE (b : Nat) (q p : PM) : Prop := ∀ a, ¬ a = b → p.2.1 14 1 a = q.2.1 14 1 a
/-- cash of accounts but 2 m and the house grows, without sign, by D at most -/
def CH (q q' : PM) (m : Nat) (D : Int) : Prop := ∀ a, a < 8 → ¬ a = 2 * m → max (q'.2.1 14 1 a).toInt (-(q'.2.1 14 1 a).toInt) ≤ max (q.2.1 14 1 a).toInt (-(q.2.1 14 1 a).toInt) + D
section CashE
variable {q p r : PM} {b m : Nat} {D E : Int}
theorem ce_refl (q : PM) : CE b q q := fun _ _ => rfl
theorem ce_pI {k i s : Nat} {v : Int32} (h : CE b q p) : CE b q (pI p k i s v) := h
theorem ce_pJ {k i s : Nat} {v : Int64} (hk : ¬ (k = 14 ∧ i = 1)) (h : CE b q p) : CE b q (pJ p k i s v) := fun a ha => by
  rw [pJ_J, u3_ne fun e => hk ⟨e.1.symm, e.2.1.symm⟩]
  exact h a ha
theorem ce_s {s : Nat} {v : Int64} (hb : s = b) (h : CE b q p) : CE b q (pJ p 14 1 s v) := fun a ha => by
  rw [pJ_J, u3_s (fun e => ha (e.trans hb))]
  exact h a ha
theorem ch_0 (h : ∀ a, a < 8 → ¬ a = 2 * m → p.2.1 14 1 a = q.2.1 14 1 a) : CH q p m 0 := fun a ha h2 => by
  rw [h a ha h2]
  omega
theorem ch_t (h : CH q p m D) (h2 : CH p r m E) : CH q r m (D + E) := fun a ha h3 => by
  have := h a ha h3
  have := h2 a ha h3
  omega
end CashE
theorem ce_v12_shares_125 {q : PM} {b : Nat} {kv115 : PM → Int64 → Int64 → Int64 × PM} (hkv115 : ∀ {p : PM} (a1 : Int64) (a2 : Int64), CE b q p → CE b q (kv115 p a1 a2).2) : ∀ (n : Nat) {p : PM} (c0 : Int64) (c1 : Int64) (c2 : Int32), CE b q p → CE b q (v12_shares_125 kv115 n p c0 c1 c2).2 := by
  intro n
  induction n with
  | zero =>
    intro p c0 c1 c2 h
    exact h
  | succ n ih =>
    intro p c0 c1 c2 h
    rw [ev12_shares_125]
    unfold bv12_shares_125
    repeat' first
      | with_reducible exact h
      | with_reducible apply ih
      | with_reducible apply hkv115
      | with_reducible refine ce_pI ?_
      | with_reducible refine ce_pJ (by decide) ?_
      | split
      | dsimp only
theorem ce_v12_shares_115 {q : PM} {b : Nat}  : ∀ (n : Nat) {p : PM} (c0 : Int64) (c1 : Int64), CE b q p → CE b q (v12_shares_115 n p c0 c1).2 := by
  intro n
  induction n with
  | zero =>
    intro p c0 c1 h
    exact h
  | succ n ih =>
    intro p c0 c1 h
    rw [ev12_shares_115]
    unfold bv12_shares_115
    repeat' first
      | with_reducible exact h
      | with_reducible apply ih
      | with_reducible refine ce_pI ?_
      | with_reducible refine ce_pJ (by decide) ?_
      | with_reducible apply ce_v12_shares_125
      | split
      | dsimp only
theorem ce_v12_shares_47 {q : PM} {b : Nat}  : ∀ (n : Nat) {p : PM} (c0 : Int64) (c1 : Int64) (c2 : Int64) (c3 : Int64) (c4 : Int32), CE b q p → CE b q (v12_shares_47 n p c0 c1 c2 c3 c4).2 := by
  intro n
  induction n with
  | zero =>
    intro p c0 c1 c2 c3 c4 h
    exact h
  | succ n ih =>
    intro p c0 c1 c2 c3 c4 h
    rw [ev12_shares_47]
    unfold bv12_shares_47
    repeat' first
      | with_reducible exact h
      | with_reducible apply ih
      | with_reducible refine ce_pI ?_
      | with_reducible refine ce_pJ (by decide) ?_
      | with_reducible apply ce_v12_shares_115
      | split
      | dsimp only
theorem ce_v12_shares_5 {q : PM} {b : Nat}  : ∀ (n : Nat) {p : PM} (c0 : Int64) (c1 : Int64) (c2 : Int32), CE b q p → CE b q (v12_shares_5 n p c0 c1 c2).2 := by
  intro n
  induction n with
  | zero =>
    intro p c0 c1 c2 h
    exact h
  | succ n ih =>
    intro p c0 c1 c2 h
    rw [ev12_shares_5]
    unfold bv12_shares_5
    repeat' first
      | with_reducible exact h
      | with_reducible apply ih
      | with_reducible refine ce_pI ?_
      | with_reducible refine ce_pJ (by decide) ?_
      | with_reducible apply ce_v12_shares_47
      | split
      | dsimp only
theorem ce_v12_shares {q : PM} {b : Nat}  {p : PM} (v1 : Int64)  (h : CE b q p) : CE b q (v12_shares p v1).2 := by
  unfold v12_shares bv12_shares
  repeat' first
    | with_reducible exact h
    | with_reducible refine ce_pI ?_
    | with_reducible refine ce_pJ (by decide) ?_
    | with_reducible apply ce_v12_shares_5
    | split
    | dsimp only
theorem ce_v12_covers {q : PM} {b : Nat}  {p : PM} (v1 : Int32) (v2 : Int64) (v4 : Int32) (hb : (cn 2 * v4).toNatClampNeg = b) (h : CE b q p) : CE b q (v12_covers p v1 v2 v4) := by
  unfold v12_covers bv12_covers
  repeat' first
    | with_reducible exact h
    | with_reducible exact hb
    | with_reducible refine ce_pI ?_
    | with_reducible refine ce_pJ (by decide) ?_
    | with_reducible refine ce_s hb ?_
    | split
    | dsimp only
theorem ce_v12_coversByFunds_103 {q : PM} {b : Nat}  : ∀ (n : Nat) {p : PM} (c0 : Int32) (c1 : Int32) (c2 : Int64) (c3 : Int32), (cn 2 * c0).toNatClampNeg = b → CE b q p → CE b q (v12_coversByFunds_103 n p c0 c1 c2 c3) := by
  intro n
  induction n with
  | zero =>
    intro p c0 c1 c2 c3 hb h
    exact h
  | succ n ih =>
    intro p c0 c1 c2 c3 hb h
    rw [ev12_coversByFunds_103]
    unfold bv12_coversByFunds_103
    repeat' first
      | with_reducible exact h
      | with_reducible exact hb
      | with_reducible apply ih
      | with_reducible refine ce_pI ?_
      | with_reducible refine ce_pJ (by decide) ?_
      | with_reducible refine ce_s hb ?_
      | with_reducible apply ce_v12_covers
      | split
      | dsimp only
theorem ce_v12_coversByFunds_3 {q : PM} {b : Nat}  : ∀ (n : Nat) {p : PM} (c0 : Int32) (c1 : Int32) (c2 : Int32) (c3 : Int32), (cn 2 * c0).toNatClampNeg = b → CE b q p → CE b q (v12_coversByFunds_3 n p c0 c1 c2 c3) := by
  intro n
  induction n with
  | zero =>
    intro p c0 c1 c2 c3 hb h
    exact h
  | succ n ih =>
    intro p c0 c1 c2 c3 hb h
    rw [ev12_coversByFunds_3]
    unfold bv12_coversByFunds_3
    repeat' first
      | with_reducible exact h
      | with_reducible exact hb
      | with_reducible apply ih
      | with_reducible refine ce_pI ?_
      | with_reducible refine ce_pJ (by decide) ?_
      | with_reducible refine ce_s hb ?_
      | with_reducible apply ce_v12_shares
      | with_reducible apply ce_v12_coversByFunds_103
      | split
      | dsimp only
theorem ce_v12_coversByFunds {q : PM} {b : Nat}  {p : PM} (v1 : Int32) (v2 : Int32) (v3 : Int32) (hb : (cn 2 * v1).toNatClampNeg = b) (h : CE b q p) : CE b q (v12_coversByFunds p v1 v2 v3) := by
  unfold v12_coversByFunds bv12_coversByFunds
  repeat' first
    | with_reducible exact h
    | with_reducible exact hb
    | with_reducible refine ce_pI ?_
    | with_reducible refine ce_pJ (by decide) ?_
    | with_reducible refine ce_s hb ?_
    | with_reducible apply ce_v12_coversByFunds_3
    | split
    | dsimp only

