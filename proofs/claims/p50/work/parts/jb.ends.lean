/-! an auction stays as long as no time passes -/
def ENR (q p : PM) : Prop := (∃ t : Nat, t ≤ 900000 ∧ p.1 12 1 17 = cn t) ∧ ∀ b, ¬ q.1 13 12 b = cn (-100000) → ¬ p.1 13 12 b = cn (-100000)
theorem en_pI {q p : PM} {k i s : Nat} {v : Int32} (hk : ¬ (k = 13 ∧ i = 12) ∧ ¬ k = 12) (h : ENR q p) : ENR q (pI p k i s v) := by
  obtain ⟨⟨t, t1, t2⟩, h2⟩ := h
  refine ⟨⟨t, t1, ?_⟩, fun b hb => ?_⟩
  · rw [pI_1, u3_k (fun e => hk.2 e.symm)]
    exact t2
  · rw [pI_1, u3_ne fun e => hk.1 ⟨e.1.symm, e.2.1.symm⟩]
    exact h2 b hb
theorem en_pK {q p : PM} {s : Nat} {v : Int32} (hs : ¬ s = 17) (h : ENR q p) : ENR q (pI p 12 1 s v) := by
  obtain ⟨⟨t, t1, t2⟩, h2⟩ := h
  refine ⟨⟨t, t1, ?_⟩, fun b hb => ?_⟩
  · rw [pI_1, u3_ne fun e => hs e.2.2.symm]
    exact t2
  · rw [pI_1, u3_k (by decide)]
    exact h2 b hb
theorem en_pJ {q p : PM} {k i s : Nat} {v : Int64} (h : ENR q p) : ENR q (pJ p k i s v) := h
theorem en_auc {q p : PM} {s : Nat} {v : Int32} (hv : ¬ v = cn (-100000)) (h : ENR q p) : ENR q (pI p 13 12 s v) := by
  obtain ⟨⟨t, t1, t2⟩, h2⟩ := h
  refine ⟨⟨t, t1, ?_⟩, fun b hb => ?_⟩
  · rw [pI_1, u3_k (by decide)]
    exact t2
  · by_cases e : b = s
    · subst e
      rw [pI_at]
      exact hv
    · rw [pI_1, u3_ne fun e9 => e e9.2.2]
      exact h2 b hb
theorem en_tm {q p : PM} (h : ENR q p) : ¬ p.1 12 1 17 + cn 5 = cn (-100000) := by
  obtain ⟨⟨t, t1, t2⟩, -⟩ := h
  rw [t2, cnadd, cneq ⟨by omega, by omega⟩ (by decide)]
  omega
theorem en_v12_newTurn {q : PM}  {p : PM} (v1 : Int32)  (h : ENR q p) : ENR q (v12_newTurn p v1) := by
  unfold v12_newTurn bv12_newTurn
  repeat' first
    | with_reducible exact h
    | with_reducible refine en_pI (by decide) ?_
    | with_reducible refine en_pK (by decide) ?_
    | with_reducible refine en_pJ ?_
    | split
    | dsimp only
theorem en_v12_pegs_110 {q : PM}  {p : PM} (v1 : Int32) (v2 : Int32) (v4 : Int32)  (h : ENR q p) : ENR q (v12_pegs_110 p v1 v2 v4) := by
  unfold v12_pegs_110 bv12_pegs_110
  repeat' first
    | with_reducible exact h
    | with_reducible refine en_pI (by decide) ?_
    | with_reducible refine en_pK (by decide) ?_
    | with_reducible refine en_pJ ?_
    | with_reducible apply en_v12_newTurn
    | split
    | dsimp only
theorem en_v12_pegs_72 {q : PM}  {p : PM} (v1 : Int32) (v2 : Int32) (s0 : Int32)  (h : ENR q p) : ENR q (v12_pegs_72 p v1 v2 s0) := by
  unfold v12_pegs_72 bv12_pegs_72
  repeat' first
    | with_reducible exact h
    | with_reducible refine en_pI (by decide) ?_
    | with_reducible refine en_pK (by decide) ?_
    | with_reducible refine en_pJ ?_
    | with_reducible apply en_v12_newTurn
    | with_reducible apply en_v12_pegs_110
    | split
    | dsimp only
theorem en_v12_pegs {q : PM}  {p : PM} (v1 : Int32)  (h : ENR q p) : ENR q (v12_pegs p v1) := by
  unfold v12_pegs bv12_pegs
  repeat' first
    | with_reducible exact h
    | with_reducible refine en_pI (by decide) ?_
    | with_reducible refine en_pK (by decide) ?_
    | with_reducible refine en_pJ ?_
    | with_reducible apply en_v12_pegs_72
    | split
    | dsimp only
theorem en_v12_pegsAll_12 {q : PM} {kv4 : PM → Int32 → Int32 → PM} (hkv4 : ∀ {p : PM} (a1 : Int32) (a2 : Int32), ENR q p → ENR q (kv4 p a1 a2)) : ∀ (n : Nat) {p : PM} (c0 : Int32) (c1 : Int32) (c2 : Int32), ENR q p → ENR q (v12_pegsAll_12 kv4 n p c0 c1 c2) := by
  intro n
  induction n with
  | zero =>
    intro p c0 c1 c2 h
    exact h
  | succ n ih =>
    intro p c0 c1 c2 h
    rw [ev12_pegsAll_12]
    unfold bv12_pegsAll_12
    repeat' first
      | with_reducible exact h
      | with_reducible apply ih
      | with_reducible apply hkv4
      | with_reducible refine en_pI (by decide) ?_
      | with_reducible refine en_pK (by decide) ?_
      | with_reducible refine en_pJ ?_
      | with_reducible apply en_v12_pegs
      | split
      | dsimp only
theorem en_v12_pegsAll_4 {q : PM}  : ∀ (n : Nat) {p : PM} (c0 : Int32) (c1 : Int32), ENR q p → ENR q (v12_pegsAll_4 n p c0 c1) := by
  intro n
  induction n with
  | zero =>
    intro p c0 c1 h
    exact h
  | succ n ih =>
    intro p c0 c1 h
    rw [ev12_pegsAll_4]
    unfold bv12_pegsAll_4
    repeat' first
      | with_reducible exact h
      | with_reducible apply ih
      | with_reducible refine en_pI (by decide) ?_
      | with_reducible refine en_pK (by decide) ?_
      | with_reducible refine en_pJ ?_
      | with_reducible apply en_v12_pegsAll_12
      | split
      | dsimp only
theorem en_v12_pegsAll {q : PM}  {p : PM}   (h : ENR q p) : ENR q (v12_pegsAll p) := by
  unfold v12_pegsAll bv12_pegsAll
  repeat' first
    | with_reducible exact h
    | with_reducible refine en_pI (by decide) ?_
    | with_reducible refine en_pK (by decide) ?_
    | with_reducible refine en_pJ ?_
    | with_reducible apply en_v12_pegsAll_4
    | split
    | dsimp only
theorem en_v12_showsAnew {q : PM}  {p : PM} (v1 : Int32)  (h : ENR q p) : ENR q (v12_showsAnew p v1) := by
  unfold v12_showsAnew bv12_showsAnew
  repeat' first
    | with_reducible exact h
    | with_reducible refine en_pI (by decide) ?_
    | with_reducible refine en_pK (by decide) ?_
    | with_reducible refine en_pJ ?_
    | split
    | dsimp only
theorem en_v12_comes {q : PM}  {p : PM} (v1 : Int32)  (h : ENR q p) : ENR q (v12_comes p v1) := by
  unfold v12_comes bv12_comes
  repeat' first
    | with_reducible exact h
    | with_reducible refine en_pI (by decide) ?_
    | with_reducible refine en_pK (by decide) ?_
    | with_reducible refine en_pJ ?_
    | with_reducible apply en_v12_newTurn
    | with_reducible apply en_v12_showsAnew
    | split
    | dsimp only
theorem en_v12_clearsGets_2 {q : PM}  : ∀ (n : Nat) {p : PM} (c0 : Int32), ENR q p → ENR q (v12_clearsGets_2 n p c0) := by
  intro n
  induction n with
  | zero =>
    intro p c0 h
    exact h
  | succ n ih =>
    intro p c0 h
    rw [ev12_clearsGets_2]
    unfold bv12_clearsGets_2
    repeat' first
      | with_reducible exact h
      | with_reducible apply ih
      | with_reducible refine en_pI (by decide) ?_
      | with_reducible refine en_pK (by decide) ?_
      | with_reducible refine en_pJ ?_
      | split
      | dsimp only
theorem en_v12_clearsGets {q : PM}  {p : PM}   (h : ENR q p) : ENR q (v12_clearsGets p) := by
  unfold v12_clearsGets bv12_clearsGets
  repeat' first
    | with_reducible exact h
    | with_reducible refine en_pI (by decide) ?_
    | with_reducible refine en_pK (by decide) ?_
    | with_reducible refine en_pJ ?_
    | with_reducible apply en_v12_clearsGets_2
    | split
    | dsimp only
theorem en_v12_sharesByTurns_14 {q : PM}  : ∀ (n : Nat) {p : PM} (c0 : Int32) (c1 : Int32) (c2 : Int32) (c3 : Int32) (c4 : Int32), ENR q p → ENR q (v12_sharesByTurns_14 n p c0 c1 c2 c3 c4) := by
  intro n
  induction n with
  | zero =>
    intro p c0 c1 c2 c3 c4 h
    exact h
  | succ n ih =>
    intro p c0 c1 c2 c3 c4 h
    rw [ev12_sharesByTurns_14]
    unfold bv12_sharesByTurns_14
    repeat' first
      | with_reducible exact h
      | with_reducible apply ih
      | with_reducible refine en_pI (by decide) ?_
      | with_reducible refine en_pK (by decide) ?_
      | with_reducible refine en_pJ ?_
      | split
      | dsimp only
theorem en_v12_sharesByTurns {q : PM}  {p : PM} (v1 : Int32) (v2 : Int32) (v3 : Int32) (v4 : Int32)  (h : ENR q p) : ENR q (v12_sharesByTurns p v1 v2 v3 v4) := by
  unfold v12_sharesByTurns bv12_sharesByTurns
  repeat' first
    | with_reducible exact h
    | with_reducible refine en_pI (by decide) ?_
    | with_reducible refine en_pK (by decide) ?_
    | with_reducible refine en_pJ ?_
    | with_reducible apply en_v12_sharesByTurns_14
    | split
    | dsimp only
theorem en_v12_sharesBySize_17 {q : PM}  : ∀ (n : Nat) {p : PM} (c0 : Int32) (c1 : Int32) (c2 : Int32) (c3 : Int32) (c4 : Int32), ENR q p → ENR q (v12_sharesBySize_17 n p c0 c1 c2 c3 c4) := by
  intro n
  induction n with
  | zero =>
    intro p c0 c1 c2 c3 c4 h
    exact h
  | succ n ih =>
    intro p c0 c1 c2 c3 c4 h
    rw [ev12_sharesBySize_17]
    unfold bv12_sharesBySize_17
    repeat' first
      | with_reducible exact h
      | with_reducible apply ih
      | with_reducible refine en_pI (by decide) ?_
      | with_reducible refine en_pK (by decide) ?_
      | with_reducible refine en_pJ ?_
      | split
      | dsimp only
theorem en_v12_sharesBySize {q : PM}  {p : PM} (v1 : Int32) (v2 : Int32) (v3 : Int32) (v4 : Int32)  (h : ENR q p) : ENR q (v12_sharesBySize p v1 v2 v3 v4) := by
  unfold v12_sharesBySize bv12_sharesBySize
  repeat' first
    | with_reducible exact h
    | with_reducible refine en_pI (by decide) ?_
    | with_reducible refine en_pK (by decide) ?_
    | with_reducible refine en_pJ ?_
    | with_reducible apply en_v12_sharesBySize_17
    | split
    | dsimp only
theorem en_v12_sharesOut_229 {q : PM} {kv207 : PM → Int32 → Int32 → Int32 → Int32 → Int32 → Int32 → PM} (hkv207 : ∀ {p : PM} (a1 : Int32) (a2 : Int32) (a3 : Int32) (a4 : Int32) (a5 : Int32) (a6 : Int32), ENR q p → ENR q (kv207 p a1 a2 a3 a4 a5 a6)) : ∀ (n : Nat) {p : PM} (c0 : Int32) (c1 : Int32) (c2 : Int32) (c3 : Int32) (c4 : Int32) (c5 : Int32) (c6 : Int32), ENR q p → ENR q (v12_sharesOut_229 kv207 n p c0 c1 c2 c3 c4 c5 c6) := by
  intro n
  induction n with
  | zero =>
    intro p c0 c1 c2 c3 c4 c5 c6 h
    exact h
  | succ n ih =>
    intro p c0 c1 c2 c3 c4 c5 c6 h
    rw [ev12_sharesOut_229]
    unfold bv12_sharesOut_229
    repeat' first
      | with_reducible exact h
      | with_reducible apply ih
      | with_reducible apply hkv207
      | with_reducible refine en_pI (by decide) ?_
      | with_reducible refine en_pK (by decide) ?_
      | with_reducible refine en_pJ ?_
      | split
      | dsimp only
theorem en_v12_sharesOut_207 {q : PM}  : ∀ (n : Nat) {p : PM} (c0 : Int32) (c1 : Int32) (c2 : Int32) (c3 : Int32) (c4 : Int32) (c5 : Int32), ENR q p → ENR q (v12_sharesOut_207 n p c0 c1 c2 c3 c4 c5) := by
  intro n
  induction n with
  | zero =>
    intro p c0 c1 c2 c3 c4 c5 h
    exact h
  | succ n ih =>
    intro p c0 c1 c2 c3 c4 c5 h
    rw [ev12_sharesOut_207]
    unfold bv12_sharesOut_207
    repeat' first
      | with_reducible exact h
      | with_reducible apply ih
      | with_reducible refine en_pI (by decide) ?_
      | with_reducible refine en_pK (by decide) ?_
      | with_reducible refine en_pJ ?_
      | with_reducible apply en_v12_sharesOut_229
      | split
      | dsimp only
theorem en_v12_sharesOut_116 {q : PM}  : ∀ (n : Nat) {p : PM} (c0 : Int32) (c1 : Int32) (c2 : Int32) (c3 : Int32) (c4 : Int32) (c5 : Int32) (c6 : Int32), ENR q p → ENR q (v12_sharesOut_116 n p c0 c1 c2 c3 c4 c5 c6) := by
  intro n
  induction n with
  | zero =>
    intro p c0 c1 c2 c3 c4 c5 c6 h
    exact h
  | succ n ih =>
    intro p c0 c1 c2 c3 c4 c5 c6 h
    rw [ev12_sharesOut_116]
    unfold bv12_sharesOut_116
    repeat' first
      | with_reducible exact h
      | with_reducible apply ih
      | with_reducible refine en_pI (by decide) ?_
      | with_reducible refine en_pK (by decide) ?_
      | with_reducible refine en_pJ ?_
      | with_reducible apply en_v12_sharesOut_207
      | split
      | dsimp only
theorem en_v12_sharesOut_61 {q : PM}  : ∀ (n : Nat) {p : PM} (c0 : Int32) (c1 : Int32) (c2 : Int32) (c3 : Int32) (c4 : Int32) (c5 : Int32), ENR q p → ENR q (v12_sharesOut_61 n p c0 c1 c2 c3 c4 c5) := by
  intro n
  induction n with
  | zero =>
    intro p c0 c1 c2 c3 c4 c5 h
    exact h
  | succ n ih =>
    intro p c0 c1 c2 c3 c4 c5 h
    rw [ev12_sharesOut_61]
    unfold bv12_sharesOut_61
    repeat' first
      | with_reducible exact h
      | with_reducible apply ih
      | with_reducible refine en_pI (by decide) ?_
      | with_reducible refine en_pK (by decide) ?_
      | with_reducible refine en_pJ ?_
      | with_reducible apply en_v12_sharesOut_116
      | split
      | dsimp only
theorem en_v12_sharesOut {q : PM}  {p : PM} (v1 : Int32) (v2 : Int32) (v3 : Int32) (v4 : Int32)  (h : ENR q p) : ENR q (v12_sharesOut p v1 v2 v3 v4) := by
  unfold v12_sharesOut bv12_sharesOut
  repeat' first
    | with_reducible exact h
    | with_reducible refine en_pI (by decide) ?_
    | with_reducible refine en_pK (by decide) ?_
    | with_reducible refine en_pJ ?_
    | with_reducible apply en_v12_sharesOut_61
    | split
    | dsimp only
theorem en_v12_holds {q : PM}  {p : PM} (v1 : Int32) (v2 : Int32) (v3 : Int32) (v4 : Int32)  (h : ENR q p) : ENR q (v12_holds p v1 v2 v3 v4) := by
  unfold v12_holds bv12_holds
  repeat' first
    | with_reducible exact h
    | with_reducible refine en_pI (by decide) ?_
    | with_reducible refine en_pK (by decide) ?_
    | with_reducible refine en_pJ ?_
    | split
    | dsimp only
theorem en_v12_deals {q : PM}  {p : PM} (v1 : Int32) (v2 : Int32) (v3 : Int32) (v4 : Int32) (v5 : Int32)  (h : ENR q p) : ENR q (v12_deals p v1 v2 v3 v4 v5) := by
  unfold v12_deals bv12_deals
  repeat' first
    | with_reducible exact h
    | with_reducible refine en_pI (by decide) ?_
    | with_reducible refine en_pK (by decide) ?_
    | with_reducible refine en_pJ ?_
    | with_reducible apply en_v12_holds
    | split
    | dsimp only
theorem en_v12_falls {q : PM}  {p : PM} (v1 : Int32) (v2 : Int32) (v3 : Int32)  (h : ENR q p) : ENR q (v12_falls p v1 v2 v3) := by
  unfold v12_falls bv12_falls
  repeat' first
    | with_reducible exact h
    | with_reducible refine en_pI (by decide) ?_
    | with_reducible refine en_pK (by decide) ?_
    | with_reducible refine en_pJ ?_
    | split
    | dsimp only
theorem en_v12_guards_50 {q : PM}  : ∀ (n : Nat) {p : PM} (c0 : Int32) (c1 : Int32), ENR q p → ENR q (v12_guards_50 n p c0 c1) := by
  intro n
  induction n with
  | zero =>
    intro p c0 c1 h
    exact h
  | succ n ih =>
    intro p c0 c1 h
    rw [ev12_guards_50]
    unfold bv12_guards_50
    repeat' first
      | with_reducible exact h
      | with_reducible apply ih
      | with_reducible refine en_pI (by decide) ?_
      | with_reducible refine en_pK (by decide) ?_
      | with_reducible refine en_pJ ?_
      | split
      | dsimp only
theorem en_v12_guards {q : PM}  {p : PM} (v1 : Int32)  (h : ENR q p) : ENR q (v12_guards p v1) := by
  unfold v12_guards bv12_guards
  repeat' first
    | with_reducible exact h
    | with_reducible refine en_pI (by decide) ?_
    | with_reducible refine en_pK (by decide) ?_
    | with_reducible refine en_pJ ?_
    | with_reducible apply en_v12_guards_50
    | split
    | dsimp only
theorem en_v12_tradesWith_49 {q : PM}  {p : PM} (v1 : Int32) (v2 : Int32) (v3 : Int32) (v4 : Int32) (s0 : Int32)  (h : ENR q p) : ENR q (v12_tradesWith_49 p v1 v2 v3 v4 s0) := by
  unfold v12_tradesWith_49 bv12_tradesWith_49
  repeat' first
    | with_reducible exact h
    | with_reducible refine en_pI (by decide) ?_
    | with_reducible refine en_pK (by decide) ?_
    | with_reducible refine en_pJ ?_
    | with_reducible apply en_v12_newTurn
    | with_reducible apply en_v12_showsAnew
    | with_reducible apply en_v12_deals
    | with_reducible apply en_v12_falls
    | with_reducible apply en_v12_guards
    | split
    | dsimp only
theorem en_v12_tradesWith {q : PM}  {p : PM} (v1 : Int32) (v2 : Int32) (v3 : Int32)  (h : ENR q p) : ENR q (v12_tradesWith p v1 v2 v3) := by
  unfold v12_tradesWith bv12_tradesWith
  repeat' first
    | with_reducible exact h
    | with_reducible refine en_pI (by decide) ?_
    | with_reducible refine en_pK (by decide) ?_
    | with_reducible refine en_pJ ?_
    | with_reducible apply en_v12_tradesWith_49
    | split
    | dsimp only
theorem en_v12_servesAll_147 {q : PM}  : ∀ (n : Nat) {p : PM} (c0 : Int32) (c1 : Int32) (c2 : Int32) (c3 : Int32) (c4 : Int32), ENR q p → ENR q (v12_servesAll_147 n p c0 c1 c2 c3 c4) := by
  intro n
  induction n with
  | zero =>
    intro p c0 c1 c2 c3 c4 h
    exact h
  | succ n ih =>
    intro p c0 c1 c2 c3 c4 h
    rw [ev12_servesAll_147]
    unfold bv12_servesAll_147
    repeat' first
      | with_reducible exact h
      | with_reducible apply ih
      | with_reducible refine en_pI (by decide) ?_
      | with_reducible refine en_pK (by decide) ?_
      | with_reducible refine en_pJ ?_
      | with_reducible apply en_v12_tradesWith
      | split
      | dsimp only
theorem en_v12_servesAll_30 {q : PM}  : ∀ (n : Nat) {p : PM} (c0 : Int32) (c1 : Int32) (c2 : Int32) (c3 : Int32) (c4 : Int32), ENR q p → ENR q (v12_servesAll_30 n p c0 c1 c2 c3 c4) := by
  intro n
  induction n with
  | zero =>
    intro p c0 c1 c2 c3 c4 h
    exact h
  | succ n ih =>
    intro p c0 c1 c2 c3 c4 h
    rw [ev12_servesAll_30]
    unfold bv12_servesAll_30
    repeat' first
      | with_reducible exact h
      | with_reducible apply ih
      | with_reducible refine en_pI (by decide) ?_
      | with_reducible refine en_pK (by decide) ?_
      | with_reducible refine en_pJ ?_
      | with_reducible apply en_v12_sharesByTurns
      | with_reducible apply en_v12_sharesBySize
      | with_reducible apply en_v12_sharesOut
      | with_reducible apply en_v12_servesAll_147
      | split
      | dsimp only
theorem en_v12_servesAll {q : PM}  {p : PM} (v1 : Int32) (v2 : Int32)  (h : ENR q p) : ENR q (v12_servesAll p v1 v2) := by
  unfold v12_servesAll bv12_servesAll
  repeat' first
    | with_reducible exact h
    | with_reducible refine en_pI (by decide) ?_
    | with_reducible refine en_pK (by decide) ?_
    | with_reducible refine en_pJ ?_
    | with_reducible apply en_v12_clearsGets
    | with_reducible apply en_v12_servesAll_30
    | split
    | dsimp only
theorem en_v12_removesOwn_2 {q : PM}  : ∀ (n : Nat) {p : PM} (c0 : Int32) (c1 : Int32) (c2 : Int32), ENR q p → ENR q (v12_removesOwn_2 n p c0 c1 c2) := by
  intro n
  induction n with
  | zero =>
    intro p c0 c1 c2 h
    exact h
  | succ n ih =>
    intro p c0 c1 c2 h
    rw [ev12_removesOwn_2]
    unfold bv12_removesOwn_2
    repeat' first
      | with_reducible exact h
      | with_reducible apply ih
      | with_reducible refine en_pI (by decide) ?_
      | with_reducible refine en_pK (by decide) ?_
      | with_reducible refine en_pJ ?_
      | split
      | dsimp only
theorem en_v12_removesOwn {q : PM}  {p : PM} (v1 : Int32) (v2 : Int32)  (h : ENR q p) : ENR q (v12_removesOwn p v1 v2) := by
  unfold v12_removesOwn bv12_removesOwn
  repeat' first
    | with_reducible exact h
    | with_reducible refine en_pI (by decide) ?_
    | with_reducible refine en_pK (by decide) ?_
    | with_reducible refine en_pJ ?_
    | with_reducible apply en_v12_removesOwn_2
    | split
    | dsimp only
theorem en_v12_beginsAuction {q : PM} {p : PM} (v1 : Int32) (v2 : Int32) (v3 : Int32) (hv : ¬ v2 = cn (-100000)) (h : ENR q p) : ENR q (v12_beginsAuction p v1 v2 v3) := by
  unfold v12_beginsAuction bv12_beginsAuction
  dsimp only
  exact en_pI (by decide) (en_pI (by decide) (en_auc hv h))
theorem en_v12_looks_64 {q : PM}  {p : PM} (v1 : Int32) (v2 : Int32) (v3 : Int32)  (h : ENR q p) : ENR q (v12_looks_64 p v1 v2 v3).2 := by
  unfold v12_looks_64 bv12_looks_64
  repeat' first
    | with_reducible exact h
    | with_reducible exact en_tm h
    | with_reducible refine en_pI (by decide) ?_
    | with_reducible refine en_pK (by decide) ?_
    | with_reducible refine en_pJ ?_
    | with_reducible apply en_v12_servesAll
    | with_reducible apply en_v12_removesOwn
    | with_reducible apply en_v12_beginsAuction
    | split
    | dsimp only
theorem en_v12_looks {q : PM}  {p : PM} (v1 : Int32)  (h : ENR q p) : ENR q (v12_looks p v1).2 := by
  unfold v12_looks bv12_looks
  repeat' first
    | with_reducible exact h
    | with_reducible refine en_pI (by decide) ?_
    | with_reducible refine en_pK (by decide) ?_
    | with_reducible refine en_pJ ?_
    | with_reducible apply en_v12_looks_64
    | split
    | dsimp only
theorem en_v12_matches_9 {q : PM}  : ∀ (n : Nat) {p : PM} (c0 : Int32) (c1 : Int32), ENR q p → ENR q (v12_matches_9 n p c0 c1) := by
  intro n
  induction n with
  | zero =>
    intro p c0 c1 h
    exact h
  | succ n ih =>
    intro p c0 c1 h
    rw [ev12_matches_9]
    unfold bv12_matches_9
    repeat' first
      | with_reducible exact h
      | with_reducible apply ih
      | with_reducible refine en_pI (by decide) ?_
      | with_reducible refine en_pK (by decide) ?_
      | with_reducible refine en_pJ ?_
      | with_reducible apply en_v12_comes
      | with_reducible apply en_v12_looks
      | split
      | dsimp only
theorem en_v12_matches {q : PM}  {p : PM} (v1 : Int32)  (h : ENR q p) : ENR q (v12_matches p v1) := by
  unfold v12_matches bv12_matches
  repeat' first
    | with_reducible exact h
    | with_reducible refine en_pI (by decide) ?_
    | with_reducible refine en_pK (by decide) ?_
    | with_reducible refine en_pJ ?_
    | with_reducible apply en_v12_matches_9
    | split
    | dsimp only
theorem en_v12_joins_53 {q : PM}  {p : PM}   (h : ENR q p) : ENR q (v12_joins_53 p).2 := by
  unfold v12_joins_53 bv12_joins_53
  repeat' first
    | with_reducible exact h
    | with_reducible refine en_pI (by decide) ?_
    | with_reducible refine en_pK (by decide) ?_
    | with_reducible refine en_pJ ?_
    | split
    | dsimp only
theorem en_v12_joins_197 {q : PM}  {p : PM} (v2 : Int32) (v3 : Int32) (v4 : Int32) (v5 : Int32) (v6 : Int32) (v8 : Int32) (v9 : Int32)  (h : ENR q p) : ENR q (v12_joins_197 p v2 v3 v4 v5 v6 v8 v9).2 := by
  unfold v12_joins_197 bv12_joins_197
  repeat' first
    | with_reducible exact h
    | with_reducible refine en_pI (by decide) ?_
    | with_reducible refine en_pK (by decide) ?_
    | with_reducible refine en_pJ ?_
    | split
    | dsimp only
theorem en_v12_falls1 {q : PM}  {p : PM} (v1 : Int32) (v2 : Int32)  (h : ENR q p) : ENR q (v12_falls1 p v1 v2) := by
  unfold v12_falls1 bv12_falls1
  repeat' first
    | with_reducible exact h
    | with_reducible refine en_pI (by decide) ?_
    | with_reducible refine en_pK (by decide) ?_
    | with_reducible refine en_pJ ?_
    | with_reducible apply en_v12_newTurn
    | with_reducible apply en_v12_showsAnew
    | with_reducible apply en_v12_falls
    | split
    | dsimp only
theorem en_v12_joins_258 {q : PM}  {p : PM} (v2 : Int32) (v3 : Int32) (v4 : Int32) (v5 : Int32) (v6 : Int32) (v8 : Int32) (v9 : Int32) (v11 : Int32) (s0 : Int32) (s1 : Int32)  (h : ENR q p) : ENR q (v12_joins_258 p v2 v3 v4 v5 v6 v8 v9 v11 s0 s1).2 := by
  unfold v12_joins_258 bv12_joins_258
  repeat' first
    | with_reducible exact h
    | with_reducible refine en_pI (by decide) ?_
    | with_reducible refine en_pK (by decide) ?_
    | with_reducible refine en_pJ ?_
    | with_reducible apply en_v12_deals
    | with_reducible apply en_v12_guards
    | with_reducible apply en_v12_falls1
    | split
    | dsimp only
theorem en_v12_joins_119 {q : PM}  {p : PM} (v2 : Int32) (v3 : Int32) (v4 : Int32) (v5 : Int32) (v6 : Int32) (v8 : Int32) (v9 : Int32) (s0 : Int32)  (h : ENR q p) : ENR q (v12_joins_119 p v2 v3 v4 v5 v6 v8 v9 s0).2 := by
  unfold v12_joins_119 bv12_joins_119
  repeat' first
    | with_reducible exact h
    | with_reducible refine en_pI (by decide) ?_
    | with_reducible refine en_pK (by decide) ?_
    | with_reducible refine en_pJ ?_
    | with_reducible apply en_v12_joins_197
    | with_reducible apply en_v12_joins_258
    | split
    | dsimp only
theorem en_v12_joins {q : PM}  {p : PM} (v1 : Int32) (v2 : Int32)  (h : ENR q p) : ENR q (v12_joins p v1 v2).2 := by
  unfold v12_joins bv12_joins
  repeat' first
    | with_reducible exact h
    | with_reducible refine en_pI (by decide) ?_
    | with_reducible refine en_pK (by decide) ?_
    | with_reducible refine en_pJ ?_
    | with_reducible apply en_v12_joins_53
    | with_reducible apply en_v12_joins_119
    | split
    | dsimp only
theorem en_v12_chains_64 {q : PM}  {p : PM}   (h : ENR q p) : ENR q (v12_chains_64 p).2 := by
  unfold v12_chains_64 bv12_chains_64
  repeat' first
    | with_reducible exact h
    | with_reducible refine en_pI (by decide) ?_
    | with_reducible refine en_pK (by decide) ?_
    | with_reducible refine en_pJ ?_
    | split
    | dsimp only
theorem en_v12_chains_248 {q : PM}  {p : PM} (v1 : Int32) (v2 : Int32) (v3 : Int32) (v4 : Int32) (v5 : Int32) (v6 : Int32) (v7 : Int32) (v8 : Int32)  (h : ENR q p) : ENR q (v12_chains_248 p v1 v2 v3 v4 v5 v6 v7 v8).2 := by
  unfold v12_chains_248 bv12_chains_248
  repeat' first
    | with_reducible exact h
    | with_reducible refine en_pI (by decide) ?_
    | with_reducible refine en_pK (by decide) ?_
    | with_reducible refine en_pJ ?_
    | split
    | dsimp only
theorem en_v12_chains_364 {q : PM}  {p : PM} (v1 : Int32) (v2 : Int32) (v3 : Int32) (v4 : Int32) (v5 : Int32) (v7 : Int32) (v8 : Int32) (v10 : Int32) (s0 : Int32)  (h : ENR q p) : ENR q (v12_chains_364 p v1 v2 v3 v4 v5 v7 v8 v10 s0).2 := by
  unfold v12_chains_364 bv12_chains_364
  repeat' first
    | with_reducible exact h
    | with_reducible refine en_pI (by decide) ?_
    | with_reducible refine en_pK (by decide) ?_
    | with_reducible refine en_pJ ?_
    | with_reducible apply en_v12_deals
    | with_reducible apply en_v12_guards
    | with_reducible apply en_v12_falls1
    | split
    | dsimp only
theorem en_v12_chains_316 {q : PM}  {p : PM} (v1 : Int32) (v2 : Int32) (v3 : Int32) (v4 : Int32) (v5 : Int32) (v6 : Int32) (v7 : Int32) (v8 : Int32) (v10 : Int32) (s0 : Int32)  (h : ENR q p) : ENR q (v12_chains_316 p v1 v2 v3 v4 v5 v6 v7 v8 v10 s0).2 := by
  unfold v12_chains_316 bv12_chains_316
  repeat' first
    | with_reducible exact h
    | with_reducible refine en_pI (by decide) ?_
    | with_reducible refine en_pK (by decide) ?_
    | with_reducible refine en_pJ ?_
    | with_reducible apply en_v12_deals
    | with_reducible apply en_v12_chains_364
    | split
    | dsimp only
theorem en_v12_chains_154 {q : PM}  {p : PM} (v1 : Int32) (v2 : Int32) (v3 : Int32) (v4 : Int32) (v5 : Int32) (v6 : Int32) (v7 : Int32) (v8 : Int32) (s0 : Int32)  (h : ENR q p) : ENR q (v12_chains_154 p v1 v2 v3 v4 v5 v6 v7 v8 s0).2 := by
  unfold v12_chains_154 bv12_chains_154
  repeat' first
    | with_reducible exact h
    | with_reducible refine en_pI (by decide) ?_
    | with_reducible refine en_pK (by decide) ?_
    | with_reducible refine en_pJ ?_
    | with_reducible apply en_v12_chains_248
    | with_reducible apply en_v12_chains_316
    | split
    | dsimp only
theorem en_v12_chains_25 {q : PM}  {p : PM} (v1 : Int32) (v2 : Int32) (v3 : Int32) (s0 : Int32)  (h : ENR q p) : ENR q (v12_chains_25 p v1 v2 v3 s0).2 := by
  unfold v12_chains_25 bv12_chains_25
  repeat' first
    | with_reducible exact h
    | with_reducible refine en_pI (by decide) ?_
    | with_reducible refine en_pK (by decide) ?_
    | with_reducible refine en_pJ ?_
    | with_reducible apply en_v12_chains_64
    | with_reducible apply en_v12_chains_154
    | split
    | dsimp only
theorem en_v12_chains {q : PM}  {p : PM} (v1 : Int32)  (h : ENR q p) : ENR q (v12_chains p v1).2 := by
  unfold v12_chains bv12_chains
  repeat' first
    | with_reducible exact h
    | with_reducible refine en_pI (by decide) ?_
    | with_reducible refine en_pK (by decide) ?_
    | with_reducible refine en_pJ ?_
    | with_reducible apply en_v12_chains_25
    | split
    | dsimp only
theorem en_v12_combines {q : PM}  {p : PM}   (h : ENR q p) : ENR q (v12_combines p).2 := by
  unfold v12_combines bv12_combines
  repeat' first
    | with_reducible exact h
    | with_reducible refine en_pI (by decide) ?_
    | with_reducible refine en_pK (by decide) ?_
    | with_reducible refine en_pJ ?_
    | with_reducible apply en_v12_joins
    | with_reducible apply en_v12_chains
    | split
    | dsimp only
theorem en_v12_works_11 {q : PM} {kv2 : PM → Int32 → PM} (hkv2 : ∀ {p : PM} (a1 : Int32), ENR q p → ENR q (kv2 p a1)) : ∀ (n : Nat) {p : PM} (c0 : Int32), ENR q p → ENR q (v12_works_11 kv2 n p c0) := by
  intro n
  induction n with
  | zero =>
    intro p c0 h
    exact h
  | succ n ih =>
    intro p c0 h
    rw [ev12_works_11]
    unfold bv12_works_11
    repeat' first
      | with_reducible exact h
      | with_reducible apply ih
      | with_reducible apply hkv2
      | with_reducible refine en_pI (by decide) ?_
      | with_reducible refine en_pK (by decide) ?_
      | with_reducible refine en_pJ ?_
      | with_reducible apply en_v12_matches
      | with_reducible apply en_v12_combines
      | split
      | dsimp only
theorem en_v12_works_2 {q : PM}  : ∀ (n : Nat) {p : PM} (c0 : Int32), ENR q p → ENR q (v12_works_2 n p c0) := by
  intro n
  induction n with
  | zero =>
    intro p c0 h
    exact h
  | succ n ih =>
    intro p c0 h
    rw [ev12_works_2]
    unfold bv12_works_2
    repeat' first
      | with_reducible exact h
      | with_reducible apply ih
      | with_reducible refine en_pI (by decide) ?_
      | with_reducible refine en_pK (by decide) ?_
      | with_reducible refine en_pJ ?_
      | with_reducible apply en_v12_pegsAll
      | with_reducible apply en_v12_works_11
      | split
      | dsimp only
theorem en_v12_works {q : PM}  {p : PM}   (h : ENR q p) : ENR q (v12_works p) := by
  unfold v12_works bv12_works
  repeat' first
    | with_reducible exact h
    | with_reducible refine en_pI (by decide) ?_
    | with_reducible refine en_pK (by decide) ?_
    | with_reducible refine en_pJ ?_
    | with_reducible apply en_v12_works_2
    | split
    | dsimp only
