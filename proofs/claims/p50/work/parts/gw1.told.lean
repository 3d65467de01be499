/-! the lots that are told -/
def LR (q q' : PM) : Prop := q'.1 12 1 95 = q.1 12 1 95
def LQ (q q' : PM) (M : Nat) : Prop := ∃ j : Nat, j ≤ M ∧ q'.1 12 1 95 = q.1 12 1 95 + cn j
section Told
variable {q p r : PM} {M : Nat}
theorem lr_refl (q : PM) : LR q q := rfl
theorem lr_12 {s : Nat} {v : Int32} (hs : ¬ s = 95) (h : LR q p) : LR q (pI p 12 1 s v) := by
  unfold LR
  rw [pI_1, u3_s (fun e => hs e.symm)]
  exact h
theorem lr_13 {i s : Nat} {v : Int32} (h : LR q p) : LR q (pI p 13 i s v) := by
  unfold LR
  rw [pI_1, u3_k (by decide)]
  exact h
theorem lr_15 {i s : Nat} {v : Int32} (h : LR q p) : LR q (pI p 15 i s v) := by
  unfold LR
  rw [pI_1, u3_k (by decide)]
  exact h
theorem lr_pJ {k i s : Nat} {v : Int64} (h : LR q p) : LR q (pJ p k i s v) := h
theorem lq_refl (q : PM) (M : Nat) : LQ q q M := ⟨0, Nat.zero_le _, (Int32.add_zero _).symm⟩
theorem lq_of (h : LR p r) (h2 : LQ q p M) : LQ q r M := by
  obtain ⟨j, hj, e⟩ := h2
  exact ⟨j, hj, h.trans e⟩
theorem lq_lr (h : LR q p) : LQ q p M := ⟨0, Nat.zero_le _, h.trans (Int32.add_zero _).symm⟩
theorem lq_pre (h : LR q p) (h2 : LQ p r M) : LQ q r M := by
  obtain ⟨j, hj, e⟩ := h2
  exact ⟨j, hj, e.trans (by rw [show p.1 12 1 95 = q.1 12 1 95 from h])⟩
theorem lq_12 {s : Nat} {v : Int32} (hs : ¬ s = 95) (h : LQ q p M) : LQ q (pI p 12 1 s v) M := lq_of (lr_12 hs (lr_refl p)) h
theorem lq_13 {i s : Nat} {v : Int32} (h : LQ q p M) : LQ q (pI p 13 i s v) M := lq_of (lr_13 (lr_refl p)) h
theorem lq_15 {i s : Nat} {v : Int32} (h : LQ q p M) : LQ q (pI p 15 i s v) M := lq_of (lr_15 (lr_refl p)) h
theorem lq_pJ {k i s : Nat} {v : Int64} (h : LQ q p M) : LQ q (pJ p k i s v) M := h
theorem abs_aB (p : PM) (v : Int32) : v12_abs p v = aB v := by
  unfold v12_abs bv12_abs aB
  rfl
theorem lq_new3 (v1 v2 v3 v4 v5 v6 v7 : Int32) : ∀ (n : Nat) (v8 : Int32) (p : PM), LQ p (v12_newOrder_3 n p v1 v2 v3 v4 v5 v6 v7 v8).2 v3.toInt.natAbs := by
  intro n
  induction n with
  | zero =>
    intro v8 p
    exact lq_refl p _
  | succ n ih =>
    intro v8 p
    have fin : ∀ (r : PM) (w : Int32), w = aB v3 → LQ p (pI r 12 1 95 (p.1 12 1 95 + w)) v3.toInt.natAbs := by
      intro r w hw
      refine ⟨v3.toInt.natAbs, Nat.le_refl _, ?_⟩
      rw [pI_at, hw, aB_cn]
    rw [ev12_newOrder_3]
    unfold bv12_newOrder_3
    split
    · split
      · exact fin _ _ (abs_aB _ _)
      · exact fin _ _ (abs_aB _ _)
    · exact ih _ p
theorem lq_new (p : PM) (v1 v2 v3 v4 v5 v6 v7 : Int32) : LQ p (v12_newOrder p v1 v2 v3 v4 v5 v6 v7).2 v3.toInt.natAbs := by
  unfold v12_newOrder bv12_newOrder
  exact lq_new3 _ _ _ _ _ _ _ _ _ p
theorem lq_new2 {v1 v2 v3 v4 v5 v6 v7 v : Int32} (hv : v3.toInt.natAbs = v.toInt.natAbs) (h : LQ q p v.toInt.natAbs) : LQ q (v12_newOrder p v1 v2 v3 v4 v5 v6 v7).2 (2 * v.toInt.natAbs) := by
  obtain ⟨j, hj, e⟩ := lq_new p v1 v2 v3 v4 v5 v6 v7
  obtain ⟨j2, hj2, e2⟩ := h
  refine ⟨j2 + j, by omega, ?_⟩
  rw [e, e2, Int32.add_assoc, cnadd]
  congr 1
end Told
theorem lr_v12_newTurn {q : PM}  {p : PM} (v1 : Int32)  (h : LR q p) : LR q (v12_newTurn p v1) := by
  unfold v12_newTurn bv12_newTurn
  repeat' first
    | with_reducible exact h
    | with_reducible refine lr_12 (by decide) ?_
    | with_reducible refine lr_13 ?_
    | with_reducible refine lr_15 ?_
    | with_reducible refine lr_pJ ?_
    | split
    | dsimp only
theorem lr_v12_pegs_110 {q : PM}  {p : PM} (v1 : Int32) (v2 : Int32) (v4 : Int32)  (h : LR q p) : LR q (v12_pegs_110 p v1 v2 v4) := by
  unfold v12_pegs_110 bv12_pegs_110
  repeat' first
    | with_reducible exact h
    | with_reducible refine lr_12 (by decide) ?_
    | with_reducible refine lr_13 ?_
    | with_reducible refine lr_15 ?_
    | with_reducible refine lr_pJ ?_
    | with_reducible apply lr_v12_newTurn
    | split
    | dsimp only
theorem lr_v12_pegs_72 {q : PM}  {p : PM} (v1 : Int32) (v2 : Int32) (s0 : Int32)  (h : LR q p) : LR q (v12_pegs_72 p v1 v2 s0) := by
  unfold v12_pegs_72 bv12_pegs_72
  repeat' first
    | with_reducible exact h
    | with_reducible refine lr_12 (by decide) ?_
    | with_reducible refine lr_13 ?_
    | with_reducible refine lr_15 ?_
    | with_reducible refine lr_pJ ?_
    | with_reducible apply lr_v12_newTurn
    | with_reducible apply lr_v12_pegs_110
    | split
    | dsimp only
theorem lr_v12_pegs {q : PM}  {p : PM} (v1 : Int32)  (h : LR q p) : LR q (v12_pegs p v1) := by
  unfold v12_pegs bv12_pegs
  repeat' first
    | with_reducible exact h
    | with_reducible refine lr_12 (by decide) ?_
    | with_reducible refine lr_13 ?_
    | with_reducible refine lr_15 ?_
    | with_reducible refine lr_pJ ?_
    | with_reducible apply lr_v12_pegs_72
    | split
    | dsimp only
theorem lr_v12_pegsAll_12 {q : PM} {kv4 : PM → Int32 → Int32 → PM} (hkv4 : ∀ {p : PM} (a1 : Int32) (a2 : Int32), LR q p → LR q (kv4 p a1 a2)) : ∀ (n : Nat) {p : PM} (c0 : Int32) (c1 : Int32) (c2 : Int32), LR q p → LR q (v12_pegsAll_12 kv4 n p c0 c1 c2) := by
  intro n
  induction n with
  | zero =>
    intro p c0 c1 c2 h
    exact h
  | succ n ih =>
    intro p c0 c1 c2 h
    rw [ev12_pegsAll_12]
    unfold bv12_pegsAll_12
    repeat' first
      | with_reducible exact h
      | with_reducible apply ih
      | with_reducible apply hkv4
      | with_reducible refine lr_12 (by decide) ?_
      | with_reducible refine lr_13 ?_
      | with_reducible refine lr_15 ?_
      | with_reducible refine lr_pJ ?_
      | with_reducible apply lr_v12_pegs
      | split
      | dsimp only
theorem lr_v12_pegsAll_4 {q : PM}  : ∀ (n : Nat) {p : PM} (c0 : Int32) (c1 : Int32), LR q p → LR q (v12_pegsAll_4 n p c0 c1) := by
  intro n
  induction n with
  | zero =>
    intro p c0 c1 h
    exact h
  | succ n ih =>
    intro p c0 c1 h
    rw [ev12_pegsAll_4]
    unfold bv12_pegsAll_4
    repeat' first
      | with_reducible exact h
      | with_reducible apply ih
      | with_reducible refine lr_12 (by decide) ?_
      | with_reducible refine lr_13 ?_
      | with_reducible refine lr_15 ?_
      | with_reducible refine lr_pJ ?_
      | with_reducible apply lr_v12_pegsAll_12
      | split
      | dsimp only
theorem lr_v12_pegsAll {q : PM}  {p : PM}   (h : LR q p) : LR q (v12_pegsAll p) := by
  unfold v12_pegsAll bv12_pegsAll
  repeat' first
    | with_reducible exact h
    | with_reducible refine lr_12 (by decide) ?_
    | with_reducible refine lr_13 ?_
    | with_reducible refine lr_15 ?_
    | with_reducible refine lr_pJ ?_
    | with_reducible apply lr_v12_pegsAll_4
    | split
    | dsimp only
theorem lr_v12_showsAnew {q : PM}  {p : PM} (v1 : Int32)  (h : LR q p) : LR q (v12_showsAnew p v1) := by
  unfold v12_showsAnew bv12_showsAnew
  repeat' first
    | with_reducible exact h
    | with_reducible refine lr_12 (by decide) ?_
    | with_reducible refine lr_13 ?_
    | with_reducible refine lr_15 ?_
    | with_reducible refine lr_pJ ?_
    | split
    | dsimp only
theorem lr_v12_comes {q : PM}  {p : PM} (v1 : Int32)  (h : LR q p) : LR q (v12_comes p v1) := by
  unfold v12_comes bv12_comes
  repeat' first
    | with_reducible exact h
    | with_reducible refine lr_12 (by decide) ?_
    | with_reducible refine lr_13 ?_
    | with_reducible refine lr_15 ?_
    | with_reducible refine lr_pJ ?_
    | with_reducible apply lr_v12_newTurn
    | with_reducible apply lr_v12_showsAnew
    | split
    | dsimp only
theorem lr_v12_clearsGets_2 {q : PM}  : ∀ (n : Nat) {p : PM} (c0 : Int32), LR q p → LR q (v12_clearsGets_2 n p c0) := by
  intro n
  induction n with
  | zero =>
    intro p c0 h
    exact h
  | succ n ih =>
    intro p c0 h
    rw [ev12_clearsGets_2]
    unfold bv12_clearsGets_2
    repeat' first
      | with_reducible exact h
      | with_reducible apply ih
      | with_reducible refine lr_12 (by decide) ?_
      | with_reducible refine lr_13 ?_
      | with_reducible refine lr_15 ?_
      | with_reducible refine lr_pJ ?_
      | split
      | dsimp only
theorem lr_v12_clearsGets {q : PM}  {p : PM}   (h : LR q p) : LR q (v12_clearsGets p) := by
  unfold v12_clearsGets bv12_clearsGets
  repeat' first
    | with_reducible exact h
    | with_reducible refine lr_12 (by decide) ?_
    | with_reducible refine lr_13 ?_
    | with_reducible refine lr_15 ?_
    | with_reducible refine lr_pJ ?_
    | with_reducible apply lr_v12_clearsGets_2
    | split
    | dsimp only
theorem lr_v12_sharesByTurns_14 {q : PM}  : ∀ (n : Nat) {p : PM} (c0 : Int32) (c1 : Int32) (c2 : Int32) (c3 : Int32) (c4 : Int32), LR q p → LR q (v12_sharesByTurns_14 n p c0 c1 c2 c3 c4) := by
  intro n
  induction n with
  | zero =>
    intro p c0 c1 c2 c3 c4 h
    exact h
  | succ n ih =>
    intro p c0 c1 c2 c3 c4 h
    rw [ev12_sharesByTurns_14]
    unfold bv12_sharesByTurns_14
    repeat' first
      | with_reducible exact h
      | with_reducible apply ih
      | with_reducible refine lr_12 (by decide) ?_
      | with_reducible refine lr_13 ?_
      | with_reducible refine lr_15 ?_
      | with_reducible refine lr_pJ ?_
      | split
      | dsimp only
theorem lr_v12_sharesByTurns {q : PM}  {p : PM} (v1 : Int32) (v2 : Int32) (v3 : Int32) (v4 : Int32)  (h : LR q p) : LR q (v12_sharesByTurns p v1 v2 v3 v4) := by
  unfold v12_sharesByTurns bv12_sharesByTurns
  repeat' first
    | with_reducible exact h
    | with_reducible refine lr_12 (by decide) ?_
    | with_reducible refine lr_13 ?_
    | with_reducible refine lr_15 ?_
    | with_reducible refine lr_pJ ?_
    | with_reducible apply lr_v12_sharesByTurns_14
    | split
    | dsimp only
theorem lr_v12_sharesBySize_17 {q : PM}  : ∀ (n : Nat) {p : PM} (c0 : Int32) (c1 : Int32) (c2 : Int32) (c3 : Int32) (c4 : Int32), LR q p → LR q (v12_sharesBySize_17 n p c0 c1 c2 c3 c4) := by
  intro n
  induction n with
  | zero =>
    intro p c0 c1 c2 c3 c4 h
    exact h
  | succ n ih =>
    intro p c0 c1 c2 c3 c4 h
    rw [ev12_sharesBySize_17]
    unfold bv12_sharesBySize_17
    repeat' first
      | with_reducible exact h
      | with_reducible apply ih
      | with_reducible refine lr_12 (by decide) ?_
      | with_reducible refine lr_13 ?_
      | with_reducible refine lr_15 ?_
      | with_reducible refine lr_pJ ?_
      | split
      | dsimp only
theorem lr_v12_sharesBySize {q : PM}  {p : PM} (v1 : Int32) (v2 : Int32) (v3 : Int32) (v4 : Int32)  (h : LR q p) : LR q (v12_sharesBySize p v1 v2 v3 v4) := by
  unfold v12_sharesBySize bv12_sharesBySize
  repeat' first
    | with_reducible exact h
    | with_reducible refine lr_12 (by decide) ?_
    | with_reducible refine lr_13 ?_
    | with_reducible refine lr_15 ?_
    | with_reducible refine lr_pJ ?_
    | with_reducible apply lr_v12_sharesBySize_17
    | split
    | dsimp only
theorem lr_v12_sharesOut_229 {q : PM} {kv207 : PM → Int32 → Int32 → Int32 → Int32 → Int32 → Int32 → PM} (hkv207 : ∀ {p : PM} (a1 : Int32) (a2 : Int32) (a3 : Int32) (a4 : Int32) (a5 : Int32) (a6 : Int32), LR q p → LR q (kv207 p a1 a2 a3 a4 a5 a6)) : ∀ (n : Nat) {p : PM} (c0 : Int32) (c1 : Int32) (c2 : Int32) (c3 : Int32) (c4 : Int32) (c5 : Int32) (c6 : Int32), LR q p → LR q (v12_sharesOut_229 kv207 n p c0 c1 c2 c3 c4 c5 c6) := by
  intro n
  induction n with
  | zero =>
    intro p c0 c1 c2 c3 c4 c5 c6 h
    exact h
  | succ n ih =>
    intro p c0 c1 c2 c3 c4 c5 c6 h
    rw [ev12_sharesOut_229]
    unfold bv12_sharesOut_229
    repeat' first
      | with_reducible exact h
      | with_reducible apply ih
      | with_reducible apply hkv207
      | with_reducible refine lr_12 (by decide) ?_
      | with_reducible refine lr_13 ?_
      | with_reducible refine lr_15 ?_
      | with_reducible refine lr_pJ ?_
      | split
      | dsimp only
theorem lr_v12_sharesOut_207 {q : PM}  : ∀ (n : Nat) {p : PM} (c0 : Int32) (c1 : Int32) (c2 : Int32) (c3 : Int32) (c4 : Int32) (c5 : Int32), LR q p → LR q (v12_sharesOut_207 n p c0 c1 c2 c3 c4 c5) := by
  intro n
  induction n with
  | zero =>
    intro p c0 c1 c2 c3 c4 c5 h
    exact h
  | succ n ih =>
    intro p c0 c1 c2 c3 c4 c5 h
    rw [ev12_sharesOut_207]
    unfold bv12_sharesOut_207
    repeat' first
      | with_reducible exact h
      | with_reducible apply ih
      | with_reducible refine lr_12 (by decide) ?_
      | with_reducible refine lr_13 ?_
      | with_reducible refine lr_15 ?_
      | with_reducible refine lr_pJ ?_
      | with_reducible apply lr_v12_sharesOut_229
      | split
      | dsimp only
theorem lr_v12_sharesOut_116 {q : PM}  : ∀ (n : Nat) {p : PM} (c0 : Int32) (c1 : Int32) (c2 : Int32) (c3 : Int32) (c4 : Int32) (c5 : Int32) (c6 : Int32), LR q p → LR q (v12_sharesOut_116 n p c0 c1 c2 c3 c4 c5 c6) := by
  intro n
  induction n with
  | zero =>
    intro p c0 c1 c2 c3 c4 c5 c6 h
    exact h
  | succ n ih =>
    intro p c0 c1 c2 c3 c4 c5 c6 h
    rw [ev12_sharesOut_116]
    unfold bv12_sharesOut_116
    repeat' first
      | with_reducible exact h
      | with_reducible apply ih
      | with_reducible refine lr_12 (by decide) ?_
      | with_reducible refine lr_13 ?_
      | with_reducible refine lr_15 ?_
      | with_reducible refine lr_pJ ?_
      | with_reducible apply lr_v12_sharesOut_207
      | split
      | dsimp only
theorem lr_v12_sharesOut_61 {q : PM}  : ∀ (n : Nat) {p : PM} (c0 : Int32) (c1 : Int32) (c2 : Int32) (c3 : Int32) (c4 : Int32) (c5 : Int32), LR q p → LR q (v12_sharesOut_61 n p c0 c1 c2 c3 c4 c5) := by
  intro n
  induction n with
  | zero =>
    intro p c0 c1 c2 c3 c4 c5 h
    exact h
  | succ n ih =>
    intro p c0 c1 c2 c3 c4 c5 h
    rw [ev12_sharesOut_61]
    unfold bv12_sharesOut_61
    repeat' first
      | with_reducible exact h
      | with_reducible apply ih
      | with_reducible refine lr_12 (by decide) ?_
      | with_reducible refine lr_13 ?_
      | with_reducible refine lr_15 ?_
      | with_reducible refine lr_pJ ?_
      | with_reducible apply lr_v12_sharesOut_116
      | split
      | dsimp only
theorem lr_v12_sharesOut {q : PM}  {p : PM} (v1 : Int32) (v2 : Int32) (v3 : Int32) (v4 : Int32)  (h : LR q p) : LR q (v12_sharesOut p v1 v2 v3 v4) := by
  unfold v12_sharesOut bv12_sharesOut
  repeat' first
    | with_reducible exact h
    | with_reducible refine lr_12 (by decide) ?_
    | with_reducible refine lr_13 ?_
    | with_reducible refine lr_15 ?_
    | with_reducible refine lr_pJ ?_
    | with_reducible apply lr_v12_sharesOut_61
    | split
    | dsimp only
theorem lr_v12_holds {q : PM}  {p : PM} (v1 : Int32) (v2 : Int32) (v3 : Int32) (v4 : Int32)  (h : LR q p) : LR q (v12_holds p v1 v2 v3 v4) := by
  unfold v12_holds bv12_holds
  repeat' first
    | with_reducible exact h
    | with_reducible refine lr_12 (by decide) ?_
    | with_reducible refine lr_13 ?_
    | with_reducible refine lr_15 ?_
    | with_reducible refine lr_pJ ?_
    | split
    | dsimp only
theorem lr_v12_deals {q : PM}  {p : PM} (v1 : Int32) (v2 : Int32) (v3 : Int32) (v4 : Int32) (v5 : Int32)  (h : LR q p) : LR q (v12_deals p v1 v2 v3 v4 v5) := by
  unfold v12_deals bv12_deals
  repeat' first
    | with_reducible exact h
    | with_reducible refine lr_12 (by decide) ?_
    | with_reducible refine lr_13 ?_
    | with_reducible refine lr_15 ?_
    | with_reducible refine lr_pJ ?_
    | with_reducible apply lr_v12_holds
    | split
    | dsimp only
theorem lr_v12_falls {q : PM}  {p : PM} (v1 : Int32) (v2 : Int32) (v3 : Int32)  (h : LR q p) : LR q (v12_falls p v1 v2 v3) := by
  unfold v12_falls bv12_falls
  repeat' first
    | with_reducible exact h
    | with_reducible refine lr_12 (by decide) ?_
    | with_reducible refine lr_13 ?_
    | with_reducible refine lr_15 ?_
    | with_reducible refine lr_pJ ?_
    | split
    | dsimp only
theorem lr_v12_guards_50 {q : PM}  : ∀ (n : Nat) {p : PM} (c0 : Int32) (c1 : Int32), LR q p → LR q (v12_guards_50 n p c0 c1) := by
  intro n
  induction n with
  | zero =>
    intro p c0 c1 h
    exact h
  | succ n ih =>
    intro p c0 c1 h
    rw [ev12_guards_50]
    unfold bv12_guards_50
    repeat' first
      | with_reducible exact h
      | with_reducible apply ih
      | with_reducible refine lr_12 (by decide) ?_
      | with_reducible refine lr_13 ?_
      | with_reducible refine lr_15 ?_
      | with_reducible refine lr_pJ ?_
      | split
      | dsimp only
theorem lr_v12_guards {q : PM}  {p : PM} (v1 : Int32)  (h : LR q p) : LR q (v12_guards p v1) := by
  unfold v12_guards bv12_guards
  repeat' first
    | with_reducible exact h
    | with_reducible refine lr_12 (by decide) ?_
    | with_reducible refine lr_13 ?_
    | with_reducible refine lr_15 ?_
    | with_reducible refine lr_pJ ?_
    | with_reducible apply lr_v12_guards_50
    | split
    | dsimp only
theorem lr_v12_tradesWith_49 {q : PM}  {p : PM} (v1 : Int32) (v2 : Int32) (v3 : Int32) (v4 : Int32) (s0 : Int32)  (h : LR q p) : LR q (v12_tradesWith_49 p v1 v2 v3 v4 s0) := by
  unfold v12_tradesWith_49 bv12_tradesWith_49
  repeat' first
    | with_reducible exact h
    | with_reducible refine lr_12 (by decide) ?_
    | with_reducible refine lr_13 ?_
    | with_reducible refine lr_15 ?_
    | with_reducible refine lr_pJ ?_
    | with_reducible apply lr_v12_newTurn
    | with_reducible apply lr_v12_showsAnew
    | with_reducible apply lr_v12_deals
    | with_reducible apply lr_v12_falls
    | with_reducible apply lr_v12_guards
    | split
    | dsimp only
theorem lr_v12_tradesWith {q : PM}  {p : PM} (v1 : Int32) (v2 : Int32) (v3 : Int32)  (h : LR q p) : LR q (v12_tradesWith p v1 v2 v3) := by
  unfold v12_tradesWith bv12_tradesWith
  repeat' first
    | with_reducible exact h
    | with_reducible refine lr_12 (by decide) ?_
    | with_reducible refine lr_13 ?_
    | with_reducible refine lr_15 ?_
    | with_reducible refine lr_pJ ?_
    | with_reducible apply lr_v12_tradesWith_49
    | split
    | dsimp only
theorem lr_v12_servesAll_147 {q : PM}  : ∀ (n : Nat) {p : PM} (c0 : Int32) (c1 : Int32) (c2 : Int32) (c3 : Int32) (c4 : Int32), LR q p → LR q (v12_servesAll_147 n p c0 c1 c2 c3 c4) := by
  intro n
  induction n with
  | zero =>
    intro p c0 c1 c2 c3 c4 h
    exact h
  | succ n ih =>
    intro p c0 c1 c2 c3 c4 h
    rw [ev12_servesAll_147]
    unfold bv12_servesAll_147
    repeat' first
      | with_reducible exact h
      | with_reducible apply ih
      | with_reducible refine lr_12 (by decide) ?_
      | with_reducible refine lr_13 ?_
      | with_reducible refine lr_15 ?_
      | with_reducible refine lr_pJ ?_
      | with_reducible apply lr_v12_tradesWith
      | split
      | dsimp only
theorem lr_v12_servesAll_30 {q : PM}  : ∀ (n : Nat) {p : PM} (c0 : Int32) (c1 : Int32) (c2 : Int32) (c3 : Int32) (c4 : Int32), LR q p → LR q (v12_servesAll_30 n p c0 c1 c2 c3 c4) := by
  intro n
  induction n with
  | zero =>
    intro p c0 c1 c2 c3 c4 h
    exact h
  | succ n ih =>
    intro p c0 c1 c2 c3 c4 h
    rw [ev12_servesAll_30]
    unfold bv12_servesAll_30
    repeat' first
      | with_reducible exact h
      | with_reducible apply ih
      | with_reducible refine lr_12 (by decide) ?_
      | with_reducible refine lr_13 ?_
      | with_reducible refine lr_15 ?_
      | with_reducible refine lr_pJ ?_
      | with_reducible apply lr_v12_sharesByTurns
      | with_reducible apply lr_v12_sharesBySize
      | with_reducible apply lr_v12_sharesOut
      | with_reducible apply lr_v12_servesAll_147
      | split
      | dsimp only
theorem lr_v12_servesAll {q : PM}  {p : PM} (v1 : Int32) (v2 : Int32)  (h : LR q p) : LR q (v12_servesAll p v1 v2) := by
  unfold v12_servesAll bv12_servesAll
  repeat' first
    | with_reducible exact h
    | with_reducible refine lr_12 (by decide) ?_
    | with_reducible refine lr_13 ?_
    | with_reducible refine lr_15 ?_
    | with_reducible refine lr_pJ ?_
    | with_reducible apply lr_v12_clearsGets
    | with_reducible apply lr_v12_servesAll_30
    | split
    | dsimp only
theorem lr_v12_removesOwn_2 {q : PM}  : ∀ (n : Nat) {p : PM} (c0 : Int32) (c1 : Int32) (c2 : Int32), LR q p → LR q (v12_removesOwn_2 n p c0 c1 c2) := by
  intro n
  induction n with
  | zero =>
    intro p c0 c1 c2 h
    exact h
  | succ n ih =>
    intro p c0 c1 c2 h
    rw [ev12_removesOwn_2]
    unfold bv12_removesOwn_2
    repeat' first
      | with_reducible exact h
      | with_reducible apply ih
      | with_reducible refine lr_12 (by decide) ?_
      | with_reducible refine lr_13 ?_
      | with_reducible refine lr_15 ?_
      | with_reducible refine lr_pJ ?_
      | split
      | dsimp only
theorem lr_v12_removesOwn {q : PM}  {p : PM} (v1 : Int32) (v2 : Int32)  (h : LR q p) : LR q (v12_removesOwn p v1 v2) := by
  unfold v12_removesOwn bv12_removesOwn
  repeat' first
    | with_reducible exact h
    | with_reducible refine lr_12 (by decide) ?_
    | with_reducible refine lr_13 ?_
    | with_reducible refine lr_15 ?_
    | with_reducible refine lr_pJ ?_
    | with_reducible apply lr_v12_removesOwn_2
    | split
    | dsimp only
theorem lr_v12_beginsAuction {q : PM}  {p : PM} (v1 : Int32) (v2 : Int32) (v3 : Int32)  (h : LR q p) : LR q (v12_beginsAuction p v1 v2 v3) := by
  unfold v12_beginsAuction bv12_beginsAuction
  repeat' first
    | with_reducible exact h
    | with_reducible refine lr_12 (by decide) ?_
    | with_reducible refine lr_13 ?_
    | with_reducible refine lr_15 ?_
    | with_reducible refine lr_pJ ?_
    | split
    | dsimp only
theorem lr_v12_looks_64 {q : PM}  {p : PM} (v1 : Int32) (v2 : Int32) (v3 : Int32)  (h : LR q p) : LR q (v12_looks_64 p v1 v2 v3).2 := by
  unfold v12_looks_64 bv12_looks_64
  repeat' first
    | with_reducible exact h
    | with_reducible refine lr_12 (by decide) ?_
    | with_reducible refine lr_13 ?_
    | with_reducible refine lr_15 ?_
    | with_reducible refine lr_pJ ?_
    | with_reducible apply lr_v12_servesAll
    | with_reducible apply lr_v12_removesOwn
    | with_reducible apply lr_v12_beginsAuction
    | split
    | dsimp only
theorem lr_v12_looks {q : PM}  {p : PM} (v1 : Int32)  (h : LR q p) : LR q (v12_looks p v1).2 := by
  unfold v12_looks bv12_looks
  repeat' first
    | with_reducible exact h
    | with_reducible refine lr_12 (by decide) ?_
    | with_reducible refine lr_13 ?_
    | with_reducible refine lr_15 ?_
    | with_reducible refine lr_pJ ?_
    | with_reducible apply lr_v12_looks_64
    | split
    | dsimp only
theorem lr_v12_matches_9 {q : PM}  : ∀ (n : Nat) {p : PM} (c0 : Int32) (c1 : Int32), LR q p → LR q (v12_matches_9 n p c0 c1) := by
  intro n
  induction n with
  | zero =>
    intro p c0 c1 h
    exact h
  | succ n ih =>
    intro p c0 c1 h
    rw [ev12_matches_9]
    unfold bv12_matches_9
    repeat' first
      | with_reducible exact h
      | with_reducible apply ih
      | with_reducible refine lr_12 (by decide) ?_
      | with_reducible refine lr_13 ?_
      | with_reducible refine lr_15 ?_
      | with_reducible refine lr_pJ ?_
      | with_reducible apply lr_v12_comes
      | with_reducible apply lr_v12_looks
      | split
      | dsimp only
theorem lr_v12_matches {q : PM}  {p : PM} (v1 : Int32)  (h : LR q p) : LR q (v12_matches p v1) := by
  unfold v12_matches bv12_matches
  repeat' first
    | with_reducible exact h
    | with_reducible refine lr_12 (by decide) ?_
    | with_reducible refine lr_13 ?_
    | with_reducible refine lr_15 ?_
    | with_reducible refine lr_pJ ?_
    | with_reducible apply lr_v12_matches_9
    | split
    | dsimp only
theorem lr_v12_joins_53 {q : PM}  {p : PM}   (h : LR q p) : LR q (v12_joins_53 p).2 := by
  unfold v12_joins_53 bv12_joins_53
  repeat' first
    | with_reducible exact h
    | with_reducible refine lr_12 (by decide) ?_
    | with_reducible refine lr_13 ?_
    | with_reducible refine lr_15 ?_
    | with_reducible refine lr_pJ ?_
    | split
    | dsimp only
theorem lr_v12_joins_197 {q : PM}  {p : PM} (v2 : Int32) (v3 : Int32) (v4 : Int32) (v5 : Int32) (v6 : Int32) (v8 : Int32) (v9 : Int32)  (h : LR q p) : LR q (v12_joins_197 p v2 v3 v4 v5 v6 v8 v9).2 := by
  unfold v12_joins_197 bv12_joins_197
  repeat' first
    | with_reducible exact h
    | with_reducible refine lr_12 (by decide) ?_
    | with_reducible refine lr_13 ?_
    | with_reducible refine lr_15 ?_
    | with_reducible refine lr_pJ ?_
    | split
    | dsimp only
theorem lr_v12_falls1 {q : PM}  {p : PM} (v1 : Int32) (v2 : Int32)  (h : LR q p) : LR q (v12_falls1 p v1 v2) := by
  unfold v12_falls1 bv12_falls1
  repeat' first
    | with_reducible exact h
    | with_reducible refine lr_12 (by decide) ?_
    | with_reducible refine lr_13 ?_
    | with_reducible refine lr_15 ?_
    | with_reducible refine lr_pJ ?_
    | with_reducible apply lr_v12_newTurn
    | with_reducible apply lr_v12_showsAnew
    | with_reducible apply lr_v12_falls
    | split
    | dsimp only
theorem lr_v12_joins_258 {q : PM}  {p : PM} (v2 : Int32) (v3 : Int32) (v4 : Int32) (v5 : Int32) (v6 : Int32) (v8 : Int32) (v9 : Int32) (v11 : Int32) (s0 : Int32) (s1 : Int32)  (h : LR q p) : LR q (v12_joins_258 p v2 v3 v4 v5 v6 v8 v9 v11 s0 s1).2 := by
  unfold v12_joins_258 bv12_joins_258
  repeat' first
    | with_reducible exact h
    | with_reducible refine lr_12 (by decide) ?_
    | with_reducible refine lr_13 ?_
    | with_reducible refine lr_15 ?_
    | with_reducible refine lr_pJ ?_
    | with_reducible apply lr_v12_deals
    | with_reducible apply lr_v12_guards
    | with_reducible apply lr_v12_falls1
    | split
    | dsimp only
theorem lr_v12_joins_119 {q : PM}  {p : PM} (v2 : Int32) (v3 : Int32) (v4 : Int32) (v5 : Int32) (v6 : Int32) (v8 : Int32) (v9 : Int32) (s0 : Int32)  (h : LR q p) : LR q (v12_joins_119 p v2 v3 v4 v5 v6 v8 v9 s0).2 := by
  unfold v12_joins_119 bv12_joins_119
  repeat' first
    | with_reducible exact h
    | with_reducible refine lr_12 (by decide) ?_
    | with_reducible refine lr_13 ?_
    | with_reducible refine lr_15 ?_
    | with_reducible refine lr_pJ ?_
    | with_reducible apply lr_v12_joins_197
    | with_reducible apply lr_v12_joins_258
    | split
    | dsimp only
theorem lr_v12_joins {q : PM}  {p : PM} (v1 : Int32) (v2 : Int32)  (h : LR q p) : LR q (v12_joins p v1 v2).2 := by
  unfold v12_joins bv12_joins
  repeat' first
    | with_reducible exact h
    | with_reducible refine lr_12 (by decide) ?_
    | with_reducible refine lr_13 ?_
    | with_reducible refine lr_15 ?_
    | with_reducible refine lr_pJ ?_
    | with_reducible apply lr_v12_joins_53
    | with_reducible apply lr_v12_joins_119
    | split
    | dsimp only
theorem lr_v12_chains_64 {q : PM}  {p : PM}   (h : LR q p) : LR q (v12_chains_64 p).2 := by
  unfold v12_chains_64 bv12_chains_64
  repeat' first
    | with_reducible exact h
    | with_reducible refine lr_12 (by decide) ?_
    | with_reducible refine lr_13 ?_
    | with_reducible refine lr_15 ?_
    | with_reducible refine lr_pJ ?_
    | split
    | dsimp only
theorem lr_v12_chains_248 {q : PM}  {p : PM} (v1 : Int32) (v2 : Int32) (v3 : Int32) (v4 : Int32) (v5 : Int32) (v6 : Int32) (v7 : Int32) (v8 : Int32)  (h : LR q p) : LR q (v12_chains_248 p v1 v2 v3 v4 v5 v6 v7 v8).2 := by
  unfold v12_chains_248 bv12_chains_248
  repeat' first
    | with_reducible exact h
    | with_reducible refine lr_12 (by decide) ?_
    | with_reducible refine lr_13 ?_
    | with_reducible refine lr_15 ?_
    | with_reducible refine lr_pJ ?_
    | split
    | dsimp only
theorem lr_v12_chains_364 {q : PM}  {p : PM} (v1 : Int32) (v2 : Int32) (v3 : Int32) (v4 : Int32) (v5 : Int32) (v7 : Int32) (v8 : Int32) (v10 : Int32) (s0 : Int32)  (h : LR q p) : LR q (v12_chains_364 p v1 v2 v3 v4 v5 v7 v8 v10 s0).2 := by
  unfold v12_chains_364 bv12_chains_364
  repeat' first
    | with_reducible exact h
    | with_reducible refine lr_12 (by decide) ?_
    | with_reducible refine lr_13 ?_
    | with_reducible refine lr_15 ?_
    | with_reducible refine lr_pJ ?_
    | with_reducible apply lr_v12_deals
    | with_reducible apply lr_v12_guards
    | with_reducible apply lr_v12_falls1
    | split
    | dsimp only
theorem lr_v12_chains_316 {q : PM}  {p : PM} (v1 : Int32) (v2 : Int32) (v3 : Int32) (v4 : Int32) (v5 : Int32) (v6 : Int32) (v7 : Int32) (v8 : Int32) (v10 : Int32) (s0 : Int32)  (h : LR q p) : LR q (v12_chains_316 p v1 v2 v3 v4 v5 v6 v7 v8 v10 s0).2 := by
  unfold v12_chains_316 bv12_chains_316
  repeat' first
    | with_reducible exact h
    | with_reducible refine lr_12 (by decide) ?_
    | with_reducible refine lr_13 ?_
    | with_reducible refine lr_15 ?_
    | with_reducible refine lr_pJ ?_
    | with_reducible apply lr_v12_deals
    | with_reducible apply lr_v12_chains_364
    | split
    | dsimp only
theorem lr_v12_chains_154 {q : PM}  {p : PM} (v1 : Int32) (v2 : Int32) (v3 : Int32) (v4 : Int32) (v5 : Int32) (v6 : Int32) (v7 : Int32) (v8 : Int32) (s0 : Int32)  (h : LR q p) : LR q (v12_chains_154 p v1 v2 v3 v4 v5 v6 v7 v8 s0).2 := by
  unfold v12_chains_154 bv12_chains_154
  repeat' first
    | with_reducible exact h
    | with_reducible refine lr_12 (by decide) ?_
    | with_reducible refine lr_13 ?_
    | with_reducible refine lr_15 ?_
    | with_reducible refine lr_pJ ?_
    | with_reducible apply lr_v12_chains_248
    | with_reducible apply lr_v12_chains_316
    | split
    | dsimp only
theorem lr_v12_chains_25 {q : PM}  {p : PM} (v1 : Int32) (v2 : Int32) (v3 : Int32) (s0 : Int32)  (h : LR q p) : LR q (v12_chains_25 p v1 v2 v3 s0).2 := by
  unfold v12_chains_25 bv12_chains_25
  repeat' first
    | with_reducible exact h
    | with_reducible refine lr_12 (by decide) ?_
    | with_reducible refine lr_13 ?_
    | with_reducible refine lr_15 ?_
    | with_reducible refine lr_pJ ?_
    | with_reducible apply lr_v12_chains_64
    | with_reducible apply lr_v12_chains_154
    | split
    | dsimp only
theorem lr_v12_chains {q : PM}  {p : PM} (v1 : Int32)  (h : LR q p) : LR q (v12_chains p v1).2 := by
  unfold v12_chains bv12_chains
  repeat' first
    | with_reducible exact h
    | with_reducible refine lr_12 (by decide) ?_
    | with_reducible refine lr_13 ?_
    | with_reducible refine lr_15 ?_
    | with_reducible refine lr_pJ ?_
    | with_reducible apply lr_v12_chains_25
    | split
    | dsimp only
theorem lr_v12_combines {q : PM}  {p : PM}   (h : LR q p) : LR q (v12_combines p).2 := by
  unfold v12_combines bv12_combines
  repeat' first
    | with_reducible exact h
    | with_reducible refine lr_12 (by decide) ?_
    | with_reducible refine lr_13 ?_
    | with_reducible refine lr_15 ?_
    | with_reducible refine lr_pJ ?_
    | with_reducible apply lr_v12_joins
    | with_reducible apply lr_v12_chains
    | split
    | dsimp only
theorem lr_v12_works_11 {q : PM} {kv2 : PM → Int32 → PM} (hkv2 : ∀ {p : PM} (a1 : Int32), LR q p → LR q (kv2 p a1)) : ∀ (n : Nat) {p : PM} (c0 : Int32), LR q p → LR q (v12_works_11 kv2 n p c0) := by
  intro n
  induction n with
  | zero =>
    intro p c0 h
    exact h
  | succ n ih =>
    intro p c0 h
    rw [ev12_works_11]
    unfold bv12_works_11
    repeat' first
      | with_reducible exact h
      | with_reducible apply ih
      | with_reducible apply hkv2
      | with_reducible refine lr_12 (by decide) ?_
      | with_reducible refine lr_13 ?_
      | with_reducible refine lr_15 ?_
      | with_reducible refine lr_pJ ?_
      | with_reducible apply lr_v12_matches
      | with_reducible apply lr_v12_combines
      | split
      | dsimp only
theorem lr_v12_works_2 {q : PM}  : ∀ (n : Nat) {p : PM} (c0 : Int32), LR q p → LR q (v12_works_2 n p c0) := by
  intro n
  induction n with
  | zero =>
    intro p c0 h
    exact h
  | succ n ih =>
    intro p c0 h
    rw [ev12_works_2]
    unfold bv12_works_2
    repeat' first
      | with_reducible exact h
      | with_reducible apply ih
      | with_reducible refine lr_12 (by decide) ?_
      | with_reducible refine lr_13 ?_
      | with_reducible refine lr_15 ?_
      | with_reducible refine lr_pJ ?_
      | with_reducible apply lr_v12_pegsAll
      | with_reducible apply lr_v12_works_11
      | split
      | dsimp only
theorem lr_v12_works {q : PM}  {p : PM}   (h : LR q p) : LR q (v12_works p) := by
  unfold v12_works bv12_works
  repeat' first
    | with_reducible exact h
    | with_reducible refine lr_12 (by decide) ?_
    | with_reducible refine lr_13 ?_
    | with_reducible refine lr_15 ?_
    | with_reducible refine lr_pJ ?_
    | with_reducible apply lr_v12_works_2
    | split
    | dsimp only
theorem lr_v12_enters {q : PM}  {p : PM} (v1 : Int32)  (h : LR q p) : LR q (v12_enters p v1) := by
  unfold v12_enters bv12_enters
  repeat' first
    | with_reducible exact h
    | with_reducible refine lr_12 (by decide) ?_
    | with_reducible refine lr_13 ?_
    | with_reducible refine lr_15 ?_
    | with_reducible refine lr_pJ ?_
    | with_reducible apply lr_v12_comes
    | with_reducible apply lr_v12_matches
    | split
    | dsimp only
theorem lr_v12_doRule_43 {q : PM}  {p : PM} (v1 : Int32) (v2 : Int32) (v3 : Int32) (v4 : Int32)  (h : LR q p) : LR q (v12_doRule_43 p v1 v2 v3 v4).2 := by
  unfold v12_doRule_43 bv12_doRule_43
  repeat' first
    | with_reducible exact h
    | with_reducible refine lr_12 (by decide) ?_
    | with_reducible refine lr_13 ?_
    | with_reducible refine lr_15 ?_
    | with_reducible refine lr_pJ ?_
    | split
    | dsimp only
theorem lr_v12_doRule {q : PM}  {p : PM} (v1 : Int32) (v2 : Int32) (v3 : Int32) (v4 : Int32)  (h : LR q p) : LR q (v12_doRule p v1 v2 v3 v4).2 := by
  unfold v12_doRule bv12_doRule
  repeat' first
    | with_reducible exact h
    | with_reducible refine lr_12 (by decide) ?_
    | with_reducible refine lr_13 ?_
    | with_reducible refine lr_15 ?_
    | with_reducible refine lr_pJ ?_
    | with_reducible apply lr_v12_doRule_43
    | split
    | dsimp only
theorem lr_v12_doAuction {q : PM}  {p : PM} (v1 : Int32) (v2 : Int32) (v3 : Int32) (v4 : Int32)  (h : LR q p) : LR q (v12_doAuction p v1 v2 v3 v4).2 := by
  unfold v12_doAuction bv12_doAuction
  repeat' first
    | with_reducible exact h
    | with_reducible refine lr_12 (by decide) ?_
    | with_reducible refine lr_13 ?_
    | with_reducible refine lr_15 ?_
    | with_reducible refine lr_pJ ?_
    | with_reducible apply lr_v12_beginsAuction
    | split
    | dsimp only
theorem lr_v12_passes_28 {q : PM} {kv2 : PM → Int32 → Int32 → PM} (hkv2 : ∀ {p : PM} (a1 : Int32) (a2 : Int32), LR q p → LR q (kv2 p a1 a2)) {kv19 : PM → Int32 → Int32 → Int32 → PM} (hkv19 : ∀ {p : PM} (a1 : Int32) (a2 : Int32) (a3 : Int32), LR q p → LR q (kv19 p a1 a2 a3)) : ∀ (n : Nat) {p : PM} (c0 : Int32) (c1 : Int32) (c2 : Int32) (c3 : Int32), LR q p → LR q (v12_passes_28 kv2 kv19 n p c0 c1 c2 c3) := by
  intro n
  induction n with
  | zero =>
    intro p c0 c1 c2 c3 h
    exact h
  | succ n ih =>
    intro p c0 c1 c2 c3 h
    rw [ev12_passes_28]
    unfold bv12_passes_28
    repeat' first
      | with_reducible exact h
      | with_reducible apply ih
      | with_reducible apply hkv2
      | with_reducible apply hkv19
      | with_reducible refine lr_12 (by decide) ?_
      | with_reducible refine lr_13 ?_
      | with_reducible refine lr_15 ?_
      | with_reducible refine lr_pJ ?_
      | split
      | dsimp only
theorem lr_v12_finds_221 {q : PM} {kv15 : PM → Int32 → Int32 → Int32 → PM} (hkv15 : ∀ {p : PM} (a1 : Int32) (a2 : Int32) (a3 : Int32), LR q p → LR q (kv15 p a1 a2 a3)) {p : PM} (v1 : Int32) (v2 : Int32) (v3 : Int32) (v5 : Int32) (v6 : Int32) (v7 : Int32)  (h : LR q p) : LR q (v12_finds_221 kv15 p v1 v2 v3 v5 v6 v7) := by
  unfold v12_finds_221 bv12_finds_221
  repeat' first
    | with_reducible exact h
    | with_reducible apply hkv15
    | with_reducible refine lr_12 (by decide) ?_
    | with_reducible refine lr_13 ?_
    | with_reducible refine lr_15 ?_
    | with_reducible refine lr_pJ ?_
    | split
    | dsimp only
theorem lr_v12_finds_225 {q : PM} {kv15 : PM → Int32 → Int32 → Int32 → PM} (hkv15 : ∀ {p : PM} (a1 : Int32) (a2 : Int32) (a3 : Int32), LR q p → LR q (kv15 p a1 a2 a3)) {p : PM} (v1 : Int32) (v2 : Int32) (v3 : Int32) (v5 : Int32) (v6 : Int32) (v7 : Int32)  (h : LR q p) : LR q (v12_finds_225 kv15 p v1 v2 v3 v5 v6 v7) := by
  unfold v12_finds_225 bv12_finds_225
  repeat' first
    | with_reducible exact h
    | with_reducible apply hkv15
    | with_reducible refine lr_12 (by decide) ?_
    | with_reducible refine lr_13 ?_
    | with_reducible refine lr_15 ?_
    | with_reducible refine lr_pJ ?_
    | split
    | dsimp only
theorem lr_v12_finds_64 {q : PM} {kv15 : PM → Int32 → Int32 → Int32 → PM} (hkv15 : ∀ {p : PM} (a1 : Int32) (a2 : Int32) (a3 : Int32), LR q p → LR q (kv15 p a1 a2 a3)) {p : PM} (v1 : Int32) (v2 : Int32) (v3 : Int32) (s0 : Int32)  (h : LR q p) : LR q (v12_finds_64 kv15 p v1 v2 v3 s0) := by
  unfold v12_finds_64 bv12_finds_64
  repeat' first
    | with_reducible exact h
    | with_reducible apply hkv15
    | with_reducible refine lr_12 (by decide) ?_
    | with_reducible refine lr_13 ?_
    | with_reducible refine lr_15 ?_
    | with_reducible refine lr_pJ ?_
    | with_reducible apply lr_v12_finds_221
    | with_reducible apply lr_v12_finds_225
    | split
    | dsimp only
theorem lr_v12_finds_63 {q : PM} {kv15 : PM → Int32 → Int32 → Int32 → PM} (hkv15 : ∀ {p : PM} (a1 : Int32) (a2 : Int32) (a3 : Int32), LR q p → LR q (kv15 p a1 a2 a3)) {p : PM} (v1 : Int32) (v2 : Int32) (v3 : Int32)  (h : LR q p) : LR q (v12_finds_63 kv15 p v1 v2 v3) := by
  unfold v12_finds_63 bv12_finds_63
  repeat' first
    | with_reducible exact h
    | with_reducible apply hkv15
    | with_reducible refine lr_12 (by decide) ?_
    | with_reducible refine lr_13 ?_
    | with_reducible refine lr_15 ?_
    | with_reducible refine lr_pJ ?_
    | with_reducible apply lr_v12_finds_64
    | split
    | dsimp only
theorem lr_v12_finds_339 {q : PM}  {p : PM}   (h : LR q p) : LR q (v12_finds_339 p) := by
  unfold v12_finds_339 bv12_finds_339
  repeat' first
    | with_reducible exact h
    | with_reducible refine lr_12 (by decide) ?_
    | with_reducible refine lr_13 ?_
    | with_reducible refine lr_15 ?_
    | with_reducible refine lr_pJ ?_
    | split
    | dsimp only
theorem lr_v12_finds_15 {q : PM}  : ∀ (n : Nat) {p : PM} (c0 : Int32) (c1 : Int32) (c2 : Int32), LR q p → LR q (v12_finds_15 n p c0 c1 c2) := by
  intro n
  induction n with
  | zero =>
    intro p c0 c1 c2 h
    exact h
  | succ n ih =>
    intro p c0 c1 c2 h
    rw [ev12_finds_15]
    unfold bv12_finds_15
    repeat' first
      | with_reducible exact h
      | with_reducible apply ih
      | with_reducible refine lr_12 (by decide) ?_
      | with_reducible refine lr_13 ?_
      | with_reducible refine lr_15 ?_
      | with_reducible refine lr_pJ ?_
      | with_reducible apply lr_v12_finds_63
      | with_reducible apply lr_v12_finds_64
      | with_reducible apply lr_v12_finds_339
      | split
      | dsimp only
theorem lr_v12_finds {q : PM}  {p : PM} (v1 : Int32)  (h : LR q p) : LR q (v12_finds p v1) := by
  unfold v12_finds bv12_finds
  repeat' first
    | with_reducible exact h
    | with_reducible refine lr_12 (by decide) ?_
    | with_reducible refine lr_13 ?_
    | with_reducible refine lr_15 ?_
    | with_reducible refine lr_pJ ?_
    | with_reducible apply lr_v12_finds_15
    | split
    | dsimp only
theorem lr_v12_tradesAll_17 {q : PM}  : ∀ (n : Nat) {p : PM} (c0 : Int32) (c1 : Int32) (c2 : Int32) (c3 : Int32), LR q p → LR q (v12_tradesAll_17 n p c0 c1 c2 c3) := by
  intro n
  induction n with
  | zero =>
    intro p c0 c1 c2 c3 h
    exact h
  | succ n ih =>
    intro p c0 c1 c2 c3 h
    rw [ev12_tradesAll_17]
    unfold bv12_tradesAll_17
    repeat' first
      | with_reducible exact h
      | with_reducible apply ih
      | with_reducible refine lr_12 (by decide) ?_
      | with_reducible refine lr_13 ?_
      | with_reducible refine lr_15 ?_
      | with_reducible refine lr_pJ ?_
      | with_reducible apply lr_v12_deals
      | with_reducible apply lr_v12_falls
      | with_reducible apply lr_v12_guards
      | split
      | dsimp only
theorem lr_v12_tradesAll {q : PM}  {p : PM} (v1 : Int32) (v2 : Int32)  (h : LR q p) : LR q (v12_tradesAll p v1 v2) := by
  unfold v12_tradesAll bv12_tradesAll
  repeat' first
    | with_reducible exact h
    | with_reducible refine lr_12 (by decide) ?_
    | with_reducible refine lr_13 ?_
    | with_reducible refine lr_15 ?_
    | with_reducible refine lr_pJ ?_
    | with_reducible apply lr_v12_tradesAll_17
    | split
    | dsimp only
theorem lr_v12_endsAuction_92 {q : PM}  : ∀ (n : Nat) {p : PM} (c0 : Int32) (c1 : Int32), LR q p → LR q (v12_endsAuction_92 n p c0 c1) := by
  intro n
  induction n with
  | zero =>
    intro p c0 c1 h
    exact h
  | succ n ih =>
    intro p c0 c1 h
    rw [ev12_endsAuction_92]
    unfold bv12_endsAuction_92
    repeat' first
      | with_reducible exact h
      | with_reducible apply ih
      | with_reducible refine lr_12 (by decide) ?_
      | with_reducible refine lr_13 ?_
      | with_reducible refine lr_15 ?_
      | with_reducible refine lr_pJ ?_
      | with_reducible apply lr_v12_showsAnew
      | with_reducible apply lr_v12_works
      | split
      | dsimp only
theorem lr_v12_endsAuction {q : PM}  {p : PM} (v1 : Int32)  (h : LR q p) : LR q (v12_endsAuction p v1) := by
  unfold v12_endsAuction bv12_endsAuction
  repeat' first
    | with_reducible exact h
    | with_reducible refine lr_12 (by decide) ?_
    | with_reducible refine lr_13 ?_
    | with_reducible refine lr_15 ?_
    | with_reducible refine lr_pJ ?_
    | with_reducible apply lr_v12_finds
    | with_reducible apply lr_v12_tradesAll
    | with_reducible apply lr_v12_endsAuction_92
    | split
    | dsimp only
theorem lr_v12_passes_94 {q : PM} {kv2 : PM → Int32 → Int32 → PM} (hkv2 : ∀ {p : PM} (a1 : Int32) (a2 : Int32), LR q p → LR q (kv2 p a1 a2)) : ∀ (n : Nat) {p : PM} (c0 : Int32) (c1 : Int32) (c2 : Int32), LR q p → LR q (v12_passes_94 kv2 n p c0 c1 c2) := by
  intro n
  induction n with
  | zero =>
    intro p c0 c1 c2 h
    exact h
  | succ n ih =>
    intro p c0 c1 c2 h
    rw [ev12_passes_94]
    unfold bv12_passes_94
    repeat' first
      | with_reducible exact h
      | with_reducible apply ih
      | with_reducible apply hkv2
      | with_reducible refine lr_12 (by decide) ?_
      | with_reducible refine lr_13 ?_
      | with_reducible refine lr_15 ?_
      | with_reducible refine lr_pJ ?_
      | with_reducible apply lr_v12_endsAuction
      | split
      | dsimp only
theorem lr_v12_passes_19 {q : PM} {kv2 : PM → Int32 → Int32 → PM} (hkv2 : ∀ {p : PM} (a1 : Int32) (a2 : Int32), LR q p → LR q (kv2 p a1 a2)) : ∀ (n : Nat) {p : PM} (c0 : Int32) (c1 : Int32) (c2 : Int32), LR q p → LR q (v12_passes_19 kv2 n p c0 c1 c2) := by
  intro n
  induction n with
  | zero =>
    intro p c0 c1 c2 h
    exact h
  | succ n ih =>
    intro p c0 c1 c2 h
    rw [ev12_passes_19]
    unfold bv12_passes_19
    repeat' first
      | with_reducible exact h
      | with_reducible apply ih
      | with_reducible apply hkv2
      | with_reducible refine lr_12 (by decide) ?_
      | with_reducible refine lr_13 ?_
      | with_reducible refine lr_15 ?_
      | with_reducible refine lr_pJ ?_
      | with_reducible apply lr_v12_passes_28
      | with_reducible apply lr_v12_passes_94
      | split
      | dsimp only
theorem lr_v12_passes_2 {q : PM}  : ∀ (n : Nat) {p : PM} (c0 : Int32) (c1 : Int32), LR q p → LR q (v12_passes_2 n p c0 c1) := by
  intro n
  induction n with
  | zero =>
    intro p c0 c1 h
    exact h
  | succ n ih =>
    intro p c0 c1 h
    rw [ev12_passes_2]
    unfold bv12_passes_2
    repeat' first
      | with_reducible exact h
      | with_reducible apply ih
      | with_reducible refine lr_12 (by decide) ?_
      | with_reducible refine lr_13 ?_
      | with_reducible refine lr_15 ?_
      | with_reducible refine lr_pJ ?_
      | with_reducible apply lr_v12_passes_19
      | split
      | dsimp only
theorem lr_v12_passes {q : PM}  {p : PM} (v1 : Int32)  (h : LR q p) : LR q (v12_passes p v1) := by
  unfold v12_passes bv12_passes
  repeat' first
    | with_reducible exact h
    | with_reducible refine lr_12 (by decide) ?_
    | with_reducible refine lr_13 ?_
    | with_reducible refine lr_15 ?_
    | with_reducible refine lr_pJ ?_
    | with_reducible apply lr_v12_passes_2
    | split
    | dsimp only
theorem lr_v12_doPass {q : PM}  {p : PM} (v1 : Int32)  (h : LR q p) : LR q (v12_doPass p v1).2 := by
  unfold v12_doPass bv12_doPass
  repeat' first
    | with_reducible exact h
    | with_reducible refine lr_12 (by decide) ?_
    | with_reducible refine lr_13 ?_
    | with_reducible refine lr_15 ?_
    | with_reducible refine lr_pJ ?_
    | with_reducible apply lr_v12_passes
    | split
    | dsimp only
theorem lr_v12_doEndDay_101 {q : PM}  : ∀ (n : Nat) {p : PM} (c0 : Int32) (c1 : Int32) (c2 : Int32), LR q p → LR q (v12_doEndDay_101 n p c0 c1 c2).2 := by
  intro n
  induction n with
  | zero =>
    intro p c0 c1 c2 h
    exact h
  | succ n ih =>
    intro p c0 c1 c2 h
    rw [ev12_doEndDay_101]
    unfold bv12_doEndDay_101
    repeat' first
      | with_reducible exact h
      | with_reducible apply ih
      | with_reducible refine lr_12 (by decide) ?_
      | with_reducible refine lr_13 ?_
      | with_reducible refine lr_15 ?_
      | with_reducible refine lr_pJ ?_
      | split
      | dsimp only
theorem lr_v12_doEndDay_51 {q : PM}  : ∀ (n : Nat) {p : PM} (c0 : Int32) (c1 : Int32) (c2 : Int32), LR q p → LR q (v12_doEndDay_51 n p c0 c1 c2).2 := by
  intro n
  induction n with
  | zero =>
    intro p c0 c1 c2 h
    exact h
  | succ n ih =>
    intro p c0 c1 c2 h
    rw [ev12_doEndDay_51]
    unfold bv12_doEndDay_51
    repeat' first
      | with_reducible exact h
      | with_reducible apply ih
      | with_reducible refine lr_12 (by decide) ?_
      | with_reducible refine lr_13 ?_
      | with_reducible refine lr_15 ?_
      | with_reducible refine lr_pJ ?_
      | with_reducible apply lr_v12_doEndDay_101
      | split
      | dsimp only
theorem lr_v12_doEndDay_4 {q : PM}  : ∀ (n : Nat) {p : PM} (c0 : Int32) (c1 : Int32), LR q p → LR q (v12_doEndDay_4 n p c0 c1).2 := by
  intro n
  induction n with
  | zero =>
    intro p c0 c1 h
    exact h
  | succ n ih =>
    intro p c0 c1 h
    rw [ev12_doEndDay_4]
    unfold bv12_doEndDay_4
    repeat' first
      | with_reducible exact h
      | with_reducible apply ih
      | with_reducible refine lr_12 (by decide) ?_
      | with_reducible refine lr_13 ?_
      | with_reducible refine lr_15 ?_
      | with_reducible refine lr_pJ ?_
      | with_reducible apply lr_v12_doEndDay_51
      | split
      | dsimp only
theorem lr_v12_doEndDay {q : PM}  {p : PM}   (h : LR q p) : LR q (v12_doEndDay p).2 := by
  unfold v12_doEndDay bv12_doEndDay
  repeat' first
    | with_reducible exact h
    | with_reducible refine lr_12 (by decide) ?_
    | with_reducible refine lr_13 ?_
    | with_reducible refine lr_15 ?_
    | with_reducible refine lr_pJ ?_
    | with_reducible apply lr_v12_doEndDay_4
    | split
    | dsimp only
theorem lr_v12_undoes {q : PM}  {p : PM} (v1 : Int32) (v2 : Int32) (v3 : Int32)  (h : LR q p) : LR q (v12_undoes p v1 v2 v3) := by
  unfold v12_undoes bv12_undoes
  repeat' first
    | with_reducible exact h
    | with_reducible refine lr_12 (by decide) ?_
    | with_reducible refine lr_13 ?_
    | with_reducible refine lr_15 ?_
    | with_reducible refine lr_pJ ?_
    | with_reducible apply lr_v12_holds
    | split
    | dsimp only
theorem lr_v12_doBust_166 {q : PM}  : ∀ (n : Nat) {p : PM} (c0 : Int32) (c1 : Int32) (c2 : Int32), LR q p → LR q (v12_doBust_166 n p c0 c1 c2).2 := by
  intro n
  induction n with
  | zero =>
    intro p c0 c1 c2 h
    exact h
  | succ n ih =>
    intro p c0 c1 c2 h
    rw [ev12_doBust_166]
    unfold bv12_doBust_166
    repeat' first
      | with_reducible exact h
      | with_reducible apply ih
      | with_reducible refine lr_12 (by decide) ?_
      | with_reducible refine lr_13 ?_
      | with_reducible refine lr_15 ?_
      | with_reducible refine lr_pJ ?_
      | split
      | dsimp only
theorem lr_v12_doBust_16 {q : PM}  {p : PM} (v1 : Int32) (s0 : Int32)  (h : LR q p) : LR q (v12_doBust_16 p v1 s0).2 := by
  unfold v12_doBust_16 bv12_doBust_16
  repeat' first
    | with_reducible exact h
    | with_reducible refine lr_12 (by decide) ?_
    | with_reducible refine lr_13 ?_
    | with_reducible refine lr_15 ?_
    | with_reducible refine lr_pJ ?_
    | with_reducible apply lr_v12_undoes
    | with_reducible apply lr_v12_doBust_166
    | split
    | dsimp only
theorem lr_v12_doBust {q : PM}  {p : PM} (v1 : Int32)  (h : LR q p) : LR q (v12_doBust p v1).2 := by
  unfold v12_doBust bv12_doBust
  repeat' first
    | with_reducible exact h
    | with_reducible refine lr_12 (by decide) ?_
    | with_reducible refine lr_13 ?_
    | with_reducible refine lr_15 ?_
    | with_reducible refine lr_pJ ?_
    | with_reducible apply lr_v12_doBust_16
    | split
    | dsimp only
theorem lr_v12_doConvert_267 {q : PM}  : ∀ (n : Nat) {p : PM} (c0 : Int32) (c1 : Int32) (c2 : Int32) (c3 : Int32) (c4 : Int64) (c5 : Int32), LR q p → LR q (v12_doConvert_267 n p c0 c1 c2 c3 c4 c5).2 := by
  intro n
  induction n with
  | zero =>
    intro p c0 c1 c2 c3 c4 c5 h
    exact h
  | succ n ih =>
    intro p c0 c1 c2 c3 c4 c5 h
    rw [ev12_doConvert_267]
    unfold bv12_doConvert_267
    repeat' first
      | with_reducible exact h
      | with_reducible apply ih
      | with_reducible refine lr_12 (by decide) ?_
      | with_reducible refine lr_13 ?_
      | with_reducible refine lr_15 ?_
      | with_reducible refine lr_pJ ?_
      | split
      | dsimp only
theorem lr_v12_doConvert_178 {q : PM}  : ∀ (n : Nat) {p : PM} (c0 : Int32) (c1 : Int32) (c2 : Int32) (c3 : Int32) (c4 : Int32), LR q p → LR q (v12_doConvert_178 n p c0 c1 c2 c3 c4).2 := by
  intro n
  induction n with
  | zero =>
    intro p c0 c1 c2 c3 c4 h
    exact h
  | succ n ih =>
    intro p c0 c1 c2 c3 c4 h
    rw [ev12_doConvert_178]
    unfold bv12_doConvert_178
    repeat' first
      | with_reducible exact h
      | with_reducible apply ih
      | with_reducible refine lr_12 (by decide) ?_
      | with_reducible refine lr_13 ?_
      | with_reducible refine lr_15 ?_
      | with_reducible refine lr_pJ ?_
      | with_reducible apply lr_v12_doConvert_267
      | split
      | dsimp only
theorem lr_v12_doConvert_127 {q : PM}  : ∀ (n : Nat) {p : PM} (c0 : Int32) (c1 : Int32) (c2 : Int32) (c3 : Int32) (c4 : Int32), LR q p → LR q (v12_doConvert_127 n p c0 c1 c2 c3 c4).2 := by
  intro n
  induction n with
  | zero =>
    intro p c0 c1 c2 c3 c4 h
    exact h
  | succ n ih =>
    intro p c0 c1 c2 c3 c4 h
    rw [ev12_doConvert_127]
    unfold bv12_doConvert_127
    repeat' first
      | with_reducible exact h
      | with_reducible apply ih
      | with_reducible refine lr_12 (by decide) ?_
      | with_reducible refine lr_13 ?_
      | with_reducible refine lr_15 ?_
      | with_reducible refine lr_pJ ?_
      | with_reducible apply lr_v12_doConvert_178
      | split
      | dsimp only
theorem lr_v12_doConvert_45 {q : PM}  : ∀ (n : Nat) {p : PM} (c0 : Int32) (c1 : Int32) (c2 : Int32) (c3 : Int32), LR q p → LR q (v12_doConvert_45 n p c0 c1 c2 c3).2 := by
  intro n
  induction n with
  | zero =>
    intro p c0 c1 c2 c3 h
    exact h
  | succ n ih =>
    intro p c0 c1 c2 c3 h
    rw [ev12_doConvert_45]
    unfold bv12_doConvert_45
    repeat' first
      | with_reducible exact h
      | with_reducible apply ih
      | with_reducible refine lr_12 (by decide) ?_
      | with_reducible refine lr_13 ?_
      | with_reducible refine lr_15 ?_
      | with_reducible refine lr_pJ ?_
      | with_reducible apply lr_v12_doConvert_127
      | split
      | dsimp only
theorem lr_v12_doConvert {q : PM}  {p : PM} (v1 : Int32) (v2 : Int32) (v3 : Int32)  (h : LR q p) : LR q (v12_doConvert p v1 v2 v3).2 := by
  unfold v12_doConvert bv12_doConvert
  repeat' first
    | with_reducible exact h
    | with_reducible refine lr_12 (by decide) ?_
    | with_reducible refine lr_13 ?_
    | with_reducible refine lr_15 ?_
    | with_reducible refine lr_pJ ?_
    | with_reducible apply lr_v12_doConvert_45
    | split
    | dsimp only
theorem lr_v12_call {q : PM}  {p : PM} (v1 : Int32) (v2 : Int64) (v4 : Int64)  (h : LR q p) : LR q (v12_call p v1 v2 v4).2 := by
  unfold v12_call bv12_call
  repeat' first
    | with_reducible exact h
    | with_reducible refine lr_12 (by decide) ?_
    | with_reducible refine lr_13 ?_
    | with_reducible refine lr_15 ?_
    | with_reducible refine lr_pJ ?_
    | split
    | dsimp only
theorem lr_v12_callOf {q : PM}  {p : PM} (v1 : Int32)  (h : LR q p) : LR q (v12_callOf p v1).2 := by
  unfold v12_callOf bv12_callOf
  repeat' first
    | with_reducible exact h
    | with_reducible refine lr_12 (by decide) ?_
    | with_reducible refine lr_13 ?_
    | with_reducible refine lr_15 ?_
    | with_reducible refine lr_pJ ?_
    | with_reducible apply lr_v12_call
    | split
    | dsimp only
theorem lr_v12_doFail_73 {q : PM}  : ∀ (n : Nat) {p : PM} (c0 : Int32) (c1 : Int32) (c2 : Int32), LR q p → LR q (v12_doFail_73 n p c0 c1 c2).2 := by
  intro n
  induction n with
  | zero =>
    intro p c0 c1 c2 h
    exact h
  | succ n ih =>
    intro p c0 c1 c2 h
    rw [ev12_doFail_73]
    unfold bv12_doFail_73
    repeat' first
      | with_reducible exact h
      | with_reducible apply ih
      | with_reducible refine lr_12 (by decide) ?_
      | with_reducible refine lr_13 ?_
      | with_reducible refine lr_15 ?_
      | with_reducible refine lr_pJ ?_
      | split
      | dsimp only
theorem lr_v12_doFail {q : PM}  {p : PM} (v1 : Int32)  (h : LR q p) : LR q (v12_doFail p v1).2 := by
  unfold v12_doFail bv12_doFail
  repeat' first
    | with_reducible exact h
    | with_reducible refine lr_12 (by decide) ?_
    | with_reducible refine lr_13 ?_
    | with_reducible refine lr_15 ?_
    | with_reducible refine lr_pJ ?_
    | with_reducible apply lr_v12_callOf
    | with_reducible apply lr_v12_doFail_73
    | split
    | dsimp only
theorem lr_v12_doBid_83 {q : PM}  : ∀ (n : Nat) {p : PM} (c0 : Int32) (c1 : Int32), LR q p → LR q (v12_doBid_83 n p c0 c1).2 := by
  intro n
  induction n with
  | zero =>
    intro p c0 c1 h
    exact h
  | succ n ih =>
    intro p c0 c1 h
    rw [ev12_doBid_83]
    unfold bv12_doBid_83
    repeat' first
      | with_reducible exact h
      | with_reducible apply ih
      | with_reducible refine lr_12 (by decide) ?_
      | with_reducible refine lr_13 ?_
      | with_reducible refine lr_15 ?_
      | with_reducible refine lr_pJ ?_
      | split
      | dsimp only
theorem lr_v12_doBid {q : PM}  {p : PM} (v1 : Int32) (v2 : Int32)  (h : LR q p) : LR q (v12_doBid p v1 v2).2 := by
  unfold v12_doBid bv12_doBid
  repeat' first
    | with_reducible exact h
    | with_reducible refine lr_12 (by decide) ?_
    | with_reducible refine lr_13 ?_
    | with_reducible refine lr_15 ?_
    | with_reducible refine lr_pJ ?_
    | with_reducible apply lr_v12_doBid_83
    | split
    | dsimp only
