/-! what most events leave as it is -/
def FW (q q' : PM) : Prop := (∀ S, S = 17 ∨ S = 18 ∨ S = 57 → q'.1 12 1 S = q.1 12 1 S) ∧ (∀ K, K = 36 ∨ K = 37 → q'.1 13 K = q.1 13 K) ∧ ∀ K, K = 9 ∨ K = 10 → q'.1 15 K = q.1 15 K
theorem fw_refl (q : PM) : FW q q := ⟨fun _ _ => rfl, fun _ _ => rfl, fun _ _ => rfl⟩
theorem fw_12 {q p : PM} {s : Nat} {v : Int32} (hs : ¬ (s = 17 ∨ s = 18 ∨ s = 57)) (h : FW q p) : FW q (pI p 12 1 s v) := by
  obtain ⟨h1, h2, h3⟩ := h
  refine ⟨fun S hS => ?_, fun K hK => ?_, fun K hK => ?_⟩
  · rw [pI_1, u3_s (fun e => hs (by rw [← e]; exact hS))]
    exact h1 S hS
  · rw [← h2 K hK]
    funext i
    rw [pI_1, u3_k (by decide)]
  · rw [← h3 K hK]
    funext i
    rw [pI_1, u3_k (by decide)]
theorem fw_13 {q p : PM} {k i : Nat} {v : Int32} (hk : ¬ (k = 36 ∨ k = 37)) (h : FW q p) : FW q (pI p 13 k i v) := by
  obtain ⟨h1, h2, h3⟩ := h
  refine ⟨fun S hS => ?_, fun K hK => ?_, fun K hK => ?_⟩
  · rw [pI_1, u3_k (by decide)]
    exact h1 S hS
  · rw [← h2 K hK]
    funext j
    rw [pI_1, u3_i (fun e => hk (by rw [← e]; exact hK))]
  · rw [← h3 K hK]
    funext j
    rw [pI_1, u3_k (by decide)]
theorem fw_15 {q p : PM} {k i : Nat} {v : Int32} (hk : ¬ (k = 9 ∨ k = 10)) (h : FW q p) : FW q (pI p 15 k i v) := by
  obtain ⟨h1, h2, h3⟩ := h
  refine ⟨fun S hS => ?_, fun K hK => ?_, fun K hK => ?_⟩
  · rw [pI_1, u3_k (by decide)]
    exact h1 S hS
  · rw [← h2 K hK]
    funext j
    rw [pI_1, u3_k (by decide)]
  · rw [← h3 K hK]
    funext j
    rw [pI_1, u3_i (fun e => hk (by rw [← e]; exact hK))]
theorem fw_pJ {q p : PM} {k i s : Nat} {v : Int64} (h : FW q p) : FW q (pJ p k i s v) := h
theorem fw_v12_newOrder_3 {q : PM}  : ∀ (n : Nat) {p : PM} (c0 : Int32) (c1 : Int32) (c2 : Int32) (c3 : Int32) (c4 : Int32) (c5 : Int32) (c6 : Int32) (c7 : Int32), FW q p → FW q (v12_newOrder_3 n p c0 c1 c2 c3 c4 c5 c6 c7).2 := by
  intro n
  induction n with
  | zero =>
    intro p c0 c1 c2 c3 c4 c5 c6 c7 h
    exact h
  | succ n ih =>
    intro p c0 c1 c2 c3 c4 c5 c6 c7 h
    rw [ev12_newOrder_3]
    unfold bv12_newOrder_3
    repeat' first
      | with_reducible exact h
      | with_reducible apply ih
      | with_reducible refine fw_12 (by decide) ?_
      | with_reducible refine fw_13 (by decide) ?_
      | with_reducible refine fw_15 (by decide) ?_
      | with_reducible refine fw_pJ ?_
      | split
      | dsimp only
theorem fw_v12_newOrder {q : PM}  {p : PM} (v1 : Int32) (v2 : Int32) (v3 : Int32) (v4 : Int32) (v5 : Int32) (v6 : Int32) (v7 : Int32)  (h : FW q p) : FW q (v12_newOrder p v1 v2 v3 v4 v5 v6 v7).2 := by
  unfold v12_newOrder bv12_newOrder
  repeat' first
    | with_reducible exact h
    | with_reducible refine fw_12 (by decide) ?_
    | with_reducible refine fw_13 (by decide) ?_
    | with_reducible refine fw_15 (by decide) ?_
    | with_reducible refine fw_pJ ?_
    | with_reducible apply fw_v12_newOrder_3
    | split
    | dsimp only
theorem fw_v12_newTurn {q : PM}  {p : PM} (v1 : Int32)  (h : FW q p) : FW q (v12_newTurn p v1) := by
  unfold v12_newTurn bv12_newTurn
  repeat' first
    | with_reducible exact h
    | with_reducible refine fw_12 (by decide) ?_
    | with_reducible refine fw_13 (by decide) ?_
    | with_reducible refine fw_15 (by decide) ?_
    | with_reducible refine fw_pJ ?_
    | split
    | dsimp only
theorem fw_v12_showsAnew {q : PM}  {p : PM} (v1 : Int32)  (h : FW q p) : FW q (v12_showsAnew p v1) := by
  unfold v12_showsAnew bv12_showsAnew
  repeat' first
    | with_reducible exact h
    | with_reducible refine fw_12 (by decide) ?_
    | with_reducible refine fw_13 (by decide) ?_
    | with_reducible refine fw_15 (by decide) ?_
    | with_reducible refine fw_pJ ?_
    | split
    | dsimp only
theorem fw_v12_comes {q : PM}  {p : PM} (v1 : Int32)  (h : FW q p) : FW q (v12_comes p v1) := by
  unfold v12_comes bv12_comes
  repeat' first
    | with_reducible exact h
    | with_reducible refine fw_12 (by decide) ?_
    | with_reducible refine fw_13 (by decide) ?_
    | with_reducible refine fw_15 (by decide) ?_
    | with_reducible refine fw_pJ ?_
    | with_reducible apply fw_v12_newTurn
    | with_reducible apply fw_v12_showsAnew
    | split
    | dsimp only
theorem fw_v12_clearsGets_2 {q : PM}  : ∀ (n : Nat) {p : PM} (c0 : Int32), FW q p → FW q (v12_clearsGets_2 n p c0) := by
  intro n
  induction n with
  | zero =>
    intro p c0 h
    exact h
  | succ n ih =>
    intro p c0 h
    rw [ev12_clearsGets_2]
    unfold bv12_clearsGets_2
    repeat' first
      | with_reducible exact h
      | with_reducible apply ih
      | with_reducible refine fw_12 (by decide) ?_
      | with_reducible refine fw_13 (by decide) ?_
      | with_reducible refine fw_15 (by decide) ?_
      | with_reducible refine fw_pJ ?_
      | split
      | dsimp only
theorem fw_v12_clearsGets {q : PM}  {p : PM}   (h : FW q p) : FW q (v12_clearsGets p) := by
  unfold v12_clearsGets bv12_clearsGets
  repeat' first
    | with_reducible exact h
    | with_reducible refine fw_12 (by decide) ?_
    | with_reducible refine fw_13 (by decide) ?_
    | with_reducible refine fw_15 (by decide) ?_
    | with_reducible refine fw_pJ ?_
    | with_reducible apply fw_v12_clearsGets_2
    | split
    | dsimp only
theorem fw_v12_sharesByTurns_14 {q : PM}  : ∀ (n : Nat) {p : PM} (c0 : Int32) (c1 : Int32) (c2 : Int32) (c3 : Int32) (c4 : Int32), FW q p → FW q (v12_sharesByTurns_14 n p c0 c1 c2 c3 c4) := by
  intro n
  induction n with
  | zero =>
    intro p c0 c1 c2 c3 c4 h
    exact h
  | succ n ih =>
    intro p c0 c1 c2 c3 c4 h
    rw [ev12_sharesByTurns_14]
    unfold bv12_sharesByTurns_14
    repeat' first
      | with_reducible exact h
      | with_reducible apply ih
      | with_reducible refine fw_12 (by decide) ?_
      | with_reducible refine fw_13 (by decide) ?_
      | with_reducible refine fw_15 (by decide) ?_
      | with_reducible refine fw_pJ ?_
      | split
      | dsimp only
theorem fw_v12_sharesByTurns {q : PM}  {p : PM} (v1 : Int32) (v2 : Int32) (v3 : Int32) (v4 : Int32)  (h : FW q p) : FW q (v12_sharesByTurns p v1 v2 v3 v4) := by
  unfold v12_sharesByTurns bv12_sharesByTurns
  repeat' first
    | with_reducible exact h
    | with_reducible refine fw_12 (by decide) ?_
    | with_reducible refine fw_13 (by decide) ?_
    | with_reducible refine fw_15 (by decide) ?_
    | with_reducible refine fw_pJ ?_
    | with_reducible apply fw_v12_sharesByTurns_14
    | split
    | dsimp only
theorem fw_v12_sharesBySize_17 {q : PM}  : ∀ (n : Nat) {p : PM} (c0 : Int32) (c1 : Int32) (c2 : Int32) (c3 : Int32) (c4 : Int32), FW q p → FW q (v12_sharesBySize_17 n p c0 c1 c2 c3 c4) := by
  intro n
  induction n with
  | zero =>
    intro p c0 c1 c2 c3 c4 h
    exact h
  | succ n ih =>
    intro p c0 c1 c2 c3 c4 h
    rw [ev12_sharesBySize_17]
    unfold bv12_sharesBySize_17
    repeat' first
      | with_reducible exact h
      | with_reducible apply ih
      | with_reducible refine fw_12 (by decide) ?_
      | with_reducible refine fw_13 (by decide) ?_
      | with_reducible refine fw_15 (by decide) ?_
      | with_reducible refine fw_pJ ?_
      | split
      | dsimp only
theorem fw_v12_sharesBySize {q : PM}  {p : PM} (v1 : Int32) (v2 : Int32) (v3 : Int32) (v4 : Int32)  (h : FW q p) : FW q (v12_sharesBySize p v1 v2 v3 v4) := by
  unfold v12_sharesBySize bv12_sharesBySize
  repeat' first
    | with_reducible exact h
    | with_reducible refine fw_12 (by decide) ?_
    | with_reducible refine fw_13 (by decide) ?_
    | with_reducible refine fw_15 (by decide) ?_
    | with_reducible refine fw_pJ ?_
    | with_reducible apply fw_v12_sharesBySize_17
    | split
    | dsimp only
theorem fw_v12_sharesOut_229 {q : PM} {kv207 : PM → Int32 → Int32 → Int32 → Int32 → Int32 → Int32 → PM} (hkv207 : ∀ {p : PM} (a1 : Int32) (a2 : Int32) (a3 : Int32) (a4 : Int32) (a5 : Int32) (a6 : Int32), FW q p → FW q (kv207 p a1 a2 a3 a4 a5 a6)) : ∀ (n : Nat) {p : PM} (c0 : Int32) (c1 : Int32) (c2 : Int32) (c3 : Int32) (c4 : Int32) (c5 : Int32) (c6 : Int32), FW q p → FW q (v12_sharesOut_229 kv207 n p c0 c1 c2 c3 c4 c5 c6) := by
  intro n
  induction n with
  | zero =>
    intro p c0 c1 c2 c3 c4 c5 c6 h
    exact h
  | succ n ih =>
    intro p c0 c1 c2 c3 c4 c5 c6 h
    rw [ev12_sharesOut_229]
    unfold bv12_sharesOut_229
    repeat' first
      | with_reducible exact h
      | with_reducible apply ih
      | with_reducible apply hkv207
      | with_reducible refine fw_12 (by decide) ?_
      | with_reducible refine fw_13 (by decide) ?_
      | with_reducible refine fw_15 (by decide) ?_
      | with_reducible refine fw_pJ ?_
      | split
      | dsimp only
theorem fw_v12_sharesOut_207 {q : PM}  : ∀ (n : Nat) {p : PM} (c0 : Int32) (c1 : Int32) (c2 : Int32) (c3 : Int32) (c4 : Int32) (c5 : Int32), FW q p → FW q (v12_sharesOut_207 n p c0 c1 c2 c3 c4 c5) := by
  intro n
  induction n with
  | zero =>
    intro p c0 c1 c2 c3 c4 c5 h
    exact h
  | succ n ih =>
    intro p c0 c1 c2 c3 c4 c5 h
    rw [ev12_sharesOut_207]
    unfold bv12_sharesOut_207
    repeat' first
      | with_reducible exact h
      | with_reducible apply ih
      | with_reducible refine fw_12 (by decide) ?_
      | with_reducible refine fw_13 (by decide) ?_
      | with_reducible refine fw_15 (by decide) ?_
      | with_reducible refine fw_pJ ?_
      | with_reducible apply fw_v12_sharesOut_229
      | split
      | dsimp only
theorem fw_v12_sharesOut_116 {q : PM}  : ∀ (n : Nat) {p : PM} (c0 : Int32) (c1 : Int32) (c2 : Int32) (c3 : Int32) (c4 : Int32) (c5 : Int32) (c6 : Int32), FW q p → FW q (v12_sharesOut_116 n p c0 c1 c2 c3 c4 c5 c6) := by
  intro n
  induction n with
  | zero =>
    intro p c0 c1 c2 c3 c4 c5 c6 h
    exact h
  | succ n ih =>
    intro p c0 c1 c2 c3 c4 c5 c6 h
    rw [ev12_sharesOut_116]
    unfold bv12_sharesOut_116
    repeat' first
      | with_reducible exact h
      | with_reducible apply ih
      | with_reducible refine fw_12 (by decide) ?_
      | with_reducible refine fw_13 (by decide) ?_
      | with_reducible refine fw_15 (by decide) ?_
      | with_reducible refine fw_pJ ?_
      | with_reducible apply fw_v12_sharesOut_207
      | split
      | dsimp only
theorem fw_v12_sharesOut_61 {q : PM}  : ∀ (n : Nat) {p : PM} (c0 : Int32) (c1 : Int32) (c2 : Int32) (c3 : Int32) (c4 : Int32) (c5 : Int32), FW q p → FW q (v12_sharesOut_61 n p c0 c1 c2 c3 c4 c5) := by
  intro n
  induction n with
  | zero =>
    intro p c0 c1 c2 c3 c4 c5 h
    exact h
  | succ n ih =>
    intro p c0 c1 c2 c3 c4 c5 h
    rw [ev12_sharesOut_61]
    unfold bv12_sharesOut_61
    repeat' first
      | with_reducible exact h
      | with_reducible apply ih
      | with_reducible refine fw_12 (by decide) ?_
      | with_reducible refine fw_13 (by decide) ?_
      | with_reducible refine fw_15 (by decide) ?_
      | with_reducible refine fw_pJ ?_
      | with_reducible apply fw_v12_sharesOut_116
      | split
      | dsimp only
theorem fw_v12_sharesOut {q : PM}  {p : PM} (v1 : Int32) (v2 : Int32) (v3 : Int32) (v4 : Int32)  (h : FW q p) : FW q (v12_sharesOut p v1 v2 v3 v4) := by
  unfold v12_sharesOut bv12_sharesOut
  repeat' first
    | with_reducible exact h
    | with_reducible refine fw_12 (by decide) ?_
    | with_reducible refine fw_13 (by decide) ?_
    | with_reducible refine fw_15 (by decide) ?_
    | with_reducible refine fw_pJ ?_
    | with_reducible apply fw_v12_sharesOut_61
    | split
    | dsimp only
theorem fw_v12_holds {q : PM}  {p : PM} (v1 : Int32) (v2 : Int32) (v3 : Int32) (v4 : Int32)  (h : FW q p) : FW q (v12_holds p v1 v2 v3 v4) := by
  unfold v12_holds bv12_holds
  repeat' first
    | with_reducible exact h
    | with_reducible refine fw_12 (by decide) ?_
    | with_reducible refine fw_13 (by decide) ?_
    | with_reducible refine fw_15 (by decide) ?_
    | with_reducible refine fw_pJ ?_
    | split
    | dsimp only
theorem fw_v12_deals {q : PM}  {p : PM} (v1 : Int32) (v2 : Int32) (v3 : Int32) (v4 : Int32) (v5 : Int32)  (h : FW q p) : FW q (v12_deals p v1 v2 v3 v4 v5) := by
  unfold v12_deals bv12_deals
  repeat' first
    | with_reducible exact h
    | with_reducible refine fw_12 (by decide) ?_
    | with_reducible refine fw_13 (by decide) ?_
    | with_reducible refine fw_15 (by decide) ?_
    | with_reducible refine fw_pJ ?_
    | with_reducible apply fw_v12_holds
    | split
    | dsimp only
theorem fw_v12_falls {q : PM}  {p : PM} (v1 : Int32) (v2 : Int32) (v3 : Int32)  (h : FW q p) : FW q (v12_falls p v1 v2 v3) := by
  unfold v12_falls bv12_falls
  repeat' first
    | with_reducible exact h
    | with_reducible refine fw_12 (by decide) ?_
    | with_reducible refine fw_13 (by decide) ?_
    | with_reducible refine fw_15 (by decide) ?_
    | with_reducible refine fw_pJ ?_
    | split
    | dsimp only
theorem fw_v12_guards_50 {q : PM}  : ∀ (n : Nat) {p : PM} (c0 : Int32) (c1 : Int32), FW q p → FW q (v12_guards_50 n p c0 c1) := by
  intro n
  induction n with
  | zero =>
    intro p c0 c1 h
    exact h
  | succ n ih =>
    intro p c0 c1 h
    rw [ev12_guards_50]
    unfold bv12_guards_50
    repeat' first
      | with_reducible exact h
      | with_reducible apply ih
      | with_reducible refine fw_12 (by decide) ?_
      | with_reducible refine fw_13 (by decide) ?_
      | with_reducible refine fw_15 (by decide) ?_
      | with_reducible refine fw_pJ ?_
      | split
      | dsimp only
theorem fw_v12_guards {q : PM}  {p : PM} (v1 : Int32)  (h : FW q p) : FW q (v12_guards p v1) := by
  unfold v12_guards bv12_guards
  repeat' first
    | with_reducible exact h
    | with_reducible refine fw_12 (by decide) ?_
    | with_reducible refine fw_13 (by decide) ?_
    | with_reducible refine fw_15 (by decide) ?_
    | with_reducible refine fw_pJ ?_
    | with_reducible apply fw_v12_guards_50
    | split
    | dsimp only
theorem fw_v12_tradesWith_49 {q : PM}  {p : PM} (v1 : Int32) (v2 : Int32) (v3 : Int32) (v4 : Int32) (s0 : Int32)  (h : FW q p) : FW q (v12_tradesWith_49 p v1 v2 v3 v4 s0) := by
  unfold v12_tradesWith_49 bv12_tradesWith_49
  repeat' first
    | with_reducible exact h
    | with_reducible refine fw_12 (by decide) ?_
    | with_reducible refine fw_13 (by decide) ?_
    | with_reducible refine fw_15 (by decide) ?_
    | with_reducible refine fw_pJ ?_
    | with_reducible apply fw_v12_newTurn
    | with_reducible apply fw_v12_showsAnew
    | with_reducible apply fw_v12_deals
    | with_reducible apply fw_v12_falls
    | with_reducible apply fw_v12_guards
    | split
    | dsimp only
theorem fw_v12_tradesWith {q : PM}  {p : PM} (v1 : Int32) (v2 : Int32) (v3 : Int32)  (h : FW q p) : FW q (v12_tradesWith p v1 v2 v3) := by
  unfold v12_tradesWith bv12_tradesWith
  repeat' first
    | with_reducible exact h
    | with_reducible refine fw_12 (by decide) ?_
    | with_reducible refine fw_13 (by decide) ?_
    | with_reducible refine fw_15 (by decide) ?_
    | with_reducible refine fw_pJ ?_
    | with_reducible apply fw_v12_tradesWith_49
    | split
    | dsimp only
theorem fw_v12_servesAll_147 {q : PM}  : ∀ (n : Nat) {p : PM} (c0 : Int32) (c1 : Int32) (c2 : Int32) (c3 : Int32) (c4 : Int32), FW q p → FW q (v12_servesAll_147 n p c0 c1 c2 c3 c4) := by
  intro n
  induction n with
  | zero =>
    intro p c0 c1 c2 c3 c4 h
    exact h
  | succ n ih =>
    intro p c0 c1 c2 c3 c4 h
    rw [ev12_servesAll_147]
    unfold bv12_servesAll_147
    repeat' first
      | with_reducible exact h
      | with_reducible apply ih
      | with_reducible refine fw_12 (by decide) ?_
      | with_reducible refine fw_13 (by decide) ?_
      | with_reducible refine fw_15 (by decide) ?_
      | with_reducible refine fw_pJ ?_
      | with_reducible apply fw_v12_tradesWith
      | split
      | dsimp only
theorem fw_v12_servesAll_30 {q : PM}  : ∀ (n : Nat) {p : PM} (c0 : Int32) (c1 : Int32) (c2 : Int32) (c3 : Int32) (c4 : Int32), FW q p → FW q (v12_servesAll_30 n p c0 c1 c2 c3 c4) := by
  intro n
  induction n with
  | zero =>
    intro p c0 c1 c2 c3 c4 h
    exact h
  | succ n ih =>
    intro p c0 c1 c2 c3 c4 h
    rw [ev12_servesAll_30]
    unfold bv12_servesAll_30
    repeat' first
      | with_reducible exact h
      | with_reducible apply ih
      | with_reducible refine fw_12 (by decide) ?_
      | with_reducible refine fw_13 (by decide) ?_
      | with_reducible refine fw_15 (by decide) ?_
      | with_reducible refine fw_pJ ?_
      | with_reducible apply fw_v12_sharesByTurns
      | with_reducible apply fw_v12_sharesBySize
      | with_reducible apply fw_v12_sharesOut
      | with_reducible apply fw_v12_servesAll_147
      | split
      | dsimp only
theorem fw_v12_servesAll {q : PM}  {p : PM} (v1 : Int32) (v2 : Int32)  (h : FW q p) : FW q (v12_servesAll p v1 v2) := by
  unfold v12_servesAll bv12_servesAll
  repeat' first
    | with_reducible exact h
    | with_reducible refine fw_12 (by decide) ?_
    | with_reducible refine fw_13 (by decide) ?_
    | with_reducible refine fw_15 (by decide) ?_
    | with_reducible refine fw_pJ ?_
    | with_reducible apply fw_v12_clearsGets
    | with_reducible apply fw_v12_servesAll_30
    | split
    | dsimp only
theorem fw_v12_removesOwn_2 {q : PM}  : ∀ (n : Nat) {p : PM} (c0 : Int32) (c1 : Int32) (c2 : Int32), FW q p → FW q (v12_removesOwn_2 n p c0 c1 c2) := by
  intro n
  induction n with
  | zero =>
    intro p c0 c1 c2 h
    exact h
  | succ n ih =>
    intro p c0 c1 c2 h
    rw [ev12_removesOwn_2]
    unfold bv12_removesOwn_2
    repeat' first
      | with_reducible exact h
      | with_reducible apply ih
      | with_reducible refine fw_12 (by decide) ?_
      | with_reducible refine fw_13 (by decide) ?_
      | with_reducible refine fw_15 (by decide) ?_
      | with_reducible refine fw_pJ ?_
      | split
      | dsimp only
theorem fw_v12_removesOwn {q : PM}  {p : PM} (v1 : Int32) (v2 : Int32)  (h : FW q p) : FW q (v12_removesOwn p v1 v2) := by
  unfold v12_removesOwn bv12_removesOwn
  repeat' first
    | with_reducible exact h
    | with_reducible refine fw_12 (by decide) ?_
    | with_reducible refine fw_13 (by decide) ?_
    | with_reducible refine fw_15 (by decide) ?_
    | with_reducible refine fw_pJ ?_
    | with_reducible apply fw_v12_removesOwn_2
    | split
    | dsimp only
theorem fw_v12_beginsAuction {q : PM}  {p : PM} (v1 : Int32) (v2 : Int32) (v3 : Int32)  (h : FW q p) : FW q (v12_beginsAuction p v1 v2 v3) := by
  unfold v12_beginsAuction bv12_beginsAuction
  repeat' first
    | with_reducible exact h
    | with_reducible refine fw_12 (by decide) ?_
    | with_reducible refine fw_13 (by decide) ?_
    | with_reducible refine fw_15 (by decide) ?_
    | with_reducible refine fw_pJ ?_
    | split
    | dsimp only
theorem fw_v12_looks_64 {q : PM}  {p : PM} (v1 : Int32) (v2 : Int32) (v3 : Int32)  (h : FW q p) : FW q (v12_looks_64 p v1 v2 v3).2 := by
  unfold v12_looks_64 bv12_looks_64
  repeat' first
    | with_reducible exact h
    | with_reducible refine fw_12 (by decide) ?_
    | with_reducible refine fw_13 (by decide) ?_
    | with_reducible refine fw_15 (by decide) ?_
    | with_reducible refine fw_pJ ?_
    | with_reducible apply fw_v12_servesAll
    | with_reducible apply fw_v12_removesOwn
    | with_reducible apply fw_v12_beginsAuction
    | split
    | dsimp only
theorem fw_v12_looks {q : PM}  {p : PM} (v1 : Int32)  (h : FW q p) : FW q (v12_looks p v1).2 := by
  unfold v12_looks bv12_looks
  repeat' first
    | with_reducible exact h
    | with_reducible refine fw_12 (by decide) ?_
    | with_reducible refine fw_13 (by decide) ?_
    | with_reducible refine fw_15 (by decide) ?_
    | with_reducible refine fw_pJ ?_
    | with_reducible apply fw_v12_looks_64
    | split
    | dsimp only
theorem fw_v12_matches_9 {q : PM}  : ∀ (n : Nat) {p : PM} (c0 : Int32) (c1 : Int32), FW q p → FW q (v12_matches_9 n p c0 c1) := by
  intro n
  induction n with
  | zero =>
    intro p c0 c1 h
    exact h
  | succ n ih =>
    intro p c0 c1 h
    rw [ev12_matches_9]
    unfold bv12_matches_9
    repeat' first
      | with_reducible exact h
      | with_reducible apply ih
      | with_reducible refine fw_12 (by decide) ?_
      | with_reducible refine fw_13 (by decide) ?_
      | with_reducible refine fw_15 (by decide) ?_
      | with_reducible refine fw_pJ ?_
      | with_reducible apply fw_v12_comes
      | with_reducible apply fw_v12_looks
      | split
      | dsimp only
theorem fw_v12_matches {q : PM}  {p : PM} (v1 : Int32)  (h : FW q p) : FW q (v12_matches p v1) := by
  unfold v12_matches bv12_matches
  repeat' first
    | with_reducible exact h
    | with_reducible refine fw_12 (by decide) ?_
    | with_reducible refine fw_13 (by decide) ?_
    | with_reducible refine fw_15 (by decide) ?_
    | with_reducible refine fw_pJ ?_
    | with_reducible apply fw_v12_matches_9
    | split
    | dsimp only
theorem fw_v12_enters {q : PM}  {p : PM} (v1 : Int32)  (h : FW q p) : FW q (v12_enters p v1) := by
  unfold v12_enters bv12_enters
  repeat' first
    | with_reducible exact h
    | with_reducible refine fw_12 (by decide) ?_
    | with_reducible refine fw_13 (by decide) ?_
    | with_reducible refine fw_15 (by decide) ?_
    | with_reducible refine fw_pJ ?_
    | with_reducible apply fw_v12_comes
    | with_reducible apply fw_v12_matches
    | split
    | dsimp only
theorem fw_v12_doLimit_121 {q : PM}  {p : PM} (v1 : Int32) (v2 : Int32) (v3 : Int32) (v4 : Int32) (v5 : Int32) (v6 : Int32)  (h : FW q p) : FW q (v12_doLimit_121 p v1 v2 v3 v4 v5 v6).2 := by
  unfold v12_doLimit_121 bv12_doLimit_121
  repeat' first
    | with_reducible exact h
    | with_reducible refine fw_12 (by decide) ?_
    | with_reducible refine fw_13 (by decide) ?_
    | with_reducible refine fw_15 (by decide) ?_
    | with_reducible refine fw_pJ ?_
    | with_reducible apply fw_v12_newOrder
    | with_reducible apply fw_v12_enters
    | split
    | dsimp only
theorem fw_v12_doLimit_75 {q : PM}  {p : PM} (v1 : Int32) (v2 : Int32) (v3 : Int32) (v4 : Int32) (v5 : Int32) (v6 : Int32) (s0 : Int32)  (h : FW q p) : FW q (v12_doLimit_75 p v1 v2 v3 v4 v5 v6 s0).2 := by
  unfold v12_doLimit_75 bv12_doLimit_75
  repeat' first
    | with_reducible exact h
    | with_reducible refine fw_12 (by decide) ?_
    | with_reducible refine fw_13 (by decide) ?_
    | with_reducible refine fw_15 (by decide) ?_
    | with_reducible refine fw_pJ ?_
    | with_reducible apply fw_v12_doLimit_121
    | split
    | dsimp only
theorem fw_v12_doLimit_70 {q : PM}  {p : PM} (v1 : Int32) (v2 : Int32) (v3 : Int32) (v4 : Int32) (v5 : Int32) (v6 : Int32)  (h : FW q p) : FW q (v12_doLimit_70 p v1 v2 v3 v4 v5 v6).2 := by
  unfold v12_doLimit_70 bv12_doLimit_70
  repeat' first
    | with_reducible exact h
    | with_reducible refine fw_12 (by decide) ?_
    | with_reducible refine fw_13 (by decide) ?_
    | with_reducible refine fw_15 (by decide) ?_
    | with_reducible refine fw_pJ ?_
    | with_reducible apply fw_v12_doLimit_75
    | split
    | dsimp only
theorem fw_v12_doLimit {q : PM}  {p : PM} (v1 : Int32) (v2 : Int32) (v3 : Int32) (v4 : Int32) (v5 : Int32) (v6 : Int32)  (h : FW q p) : FW q (v12_doLimit p v1 v2 v3 v4 v5 v6).2 := by
  unfold v12_doLimit bv12_doLimit
  repeat' first
    | with_reducible exact h
    | with_reducible refine fw_12 (by decide) ?_
    | with_reducible refine fw_13 (by decide) ?_
    | with_reducible refine fw_15 (by decide) ?_
    | with_reducible refine fw_pJ ?_
    | with_reducible apply fw_v12_doLimit_70
    | with_reducible apply fw_v12_doLimit_75
    | split
    | dsimp only
theorem fw_v12_doMarket {q : PM}  {p : PM} (v1 : Int32) (v2 : Int32) (v3 : Int32)  (h : FW q p) : FW q (v12_doMarket p v1 v2 v3).2 := by
  unfold v12_doMarket bv12_doMarket
  repeat' first
    | with_reducible exact h
    | with_reducible refine fw_12 (by decide) ?_
    | with_reducible refine fw_13 (by decide) ?_
    | with_reducible refine fw_15 (by decide) ?_
    | with_reducible refine fw_pJ ?_
    | with_reducible apply fw_v12_newOrder
    | with_reducible apply fw_v12_enters
    | split
    | dsimp only
theorem fw_v12_doIceberg {q : PM}  {p : PM} (v1 : Int32) (v2 : Int32) (v3 : Int32) (v4 : Int32) (v5 : Int32)  (h : FW q p) : FW q (v12_doIceberg p v1 v2 v3 v4 v5).2 := by
  unfold v12_doIceberg bv12_doIceberg
  repeat' first
    | with_reducible exact h
    | with_reducible refine fw_12 (by decide) ?_
    | with_reducible refine fw_13 (by decide) ?_
    | with_reducible refine fw_15 (by decide) ?_
    | with_reducible refine fw_pJ ?_
    | with_reducible apply fw_v12_newOrder
    | with_reducible apply fw_v12_enters
    | split
    | dsimp only
theorem fw_v12_doPeg {q : PM}  {p : PM} (v1 : Int32) (v2 : Int32) (v3 : Int32) (v4 : Int32) (v5 : Int32)  (h : FW q p) : FW q (v12_doPeg p v1 v2 v3 v4 v5).2 := by
  unfold v12_doPeg bv12_doPeg
  repeat' first
    | with_reducible exact h
    | with_reducible refine fw_12 (by decide) ?_
    | with_reducible refine fw_13 (by decide) ?_
    | with_reducible refine fw_15 (by decide) ?_
    | with_reducible refine fw_pJ ?_
    | with_reducible apply fw_v12_newOrder
    | split
    | dsimp only
theorem fw_v12_doStop_17 {q : PM}  {p : PM} (v1 : Int32) (v2 : Int32) (v3 : Int32) (v4 : Int32) (v5 : Int32)  (h : FW q p) : FW q (v12_doStop_17 p v1 v2 v3 v4 v5).2 := by
  unfold v12_doStop_17 bv12_doStop_17
  repeat' first
    | with_reducible exact h
    | with_reducible refine fw_12 (by decide) ?_
    | with_reducible refine fw_13 (by decide) ?_
    | with_reducible refine fw_15 (by decide) ?_
    | with_reducible refine fw_pJ ?_
    | with_reducible apply fw_v12_newOrder
    | split
    | dsimp only
theorem fw_v12_doStop_53 {q : PM}  {p : PM} (v1 : Int32) (v2 : Int32) (v3 : Int32) (v4 : Int32) (v5 : Int32)  (h : FW q p) : FW q (v12_doStop_53 p v1 v2 v3 v4 v5).2 := by
  unfold v12_doStop_53 bv12_doStop_53
  repeat' first
    | with_reducible exact h
    | with_reducible refine fw_12 (by decide) ?_
    | with_reducible refine fw_13 (by decide) ?_
    | with_reducible refine fw_15 (by decide) ?_
    | with_reducible refine fw_pJ ?_
    | with_reducible apply fw_v12_newOrder
    | split
    | dsimp only
theorem fw_v12_doStop {q : PM}  {p : PM} (v1 : Int32) (v2 : Int32) (v3 : Int32) (v4 : Int32) (v5 : Int32)  (h : FW q p) : FW q (v12_doStop p v1 v2 v3 v4 v5).2 := by
  unfold v12_doStop bv12_doStop
  repeat' first
    | with_reducible exact h
    | with_reducible refine fw_12 (by decide) ?_
    | with_reducible refine fw_13 (by decide) ?_
    | with_reducible refine fw_15 (by decide) ?_
    | with_reducible refine fw_pJ ?_
    | with_reducible apply fw_v12_newOrder
    | with_reducible apply fw_v12_doStop_17
    | with_reducible apply fw_v12_doStop_53
    | split
    | dsimp only
theorem fw_v12_doQuote_130 {q : PM}  : ∀ (n : Nat) {p : PM} (c0 : Int32) (c1 : Int32) (c2 : Int32) (c3 : Int32) (c4 : Int32) (c5 : Int32), FW q p → FW q (v12_doQuote_130 n p c0 c1 c2 c3 c4 c5).2 := by
  intro n
  induction n with
  | zero =>
    intro p c0 c1 c2 c3 c4 c5 h
    exact h
  | succ n ih =>
    intro p c0 c1 c2 c3 c4 c5 h
    rw [ev12_doQuote_130]
    unfold bv12_doQuote_130
    repeat' first
      | with_reducible exact h
      | with_reducible apply ih
      | with_reducible refine fw_12 (by decide) ?_
      | with_reducible refine fw_13 (by decide) ?_
      | with_reducible refine fw_15 (by decide) ?_
      | with_reducible refine fw_pJ ?_
      | with_reducible apply fw_v12_newOrder
      | with_reducible apply fw_v12_enters
      | split
      | dsimp only
theorem fw_v12_doQuote_60 {q : PM}  {p : PM} (v1 : Int32) (v2 : Int32) (v3 : Int32) (v4 : Int32) (v5 : Int32) (s0 : Int32)  (h : FW q p) : FW q (v12_doQuote_60 p v1 v2 v3 v4 v5 s0).2 := by
  unfold v12_doQuote_60 bv12_doQuote_60
  repeat' first
    | with_reducible exact h
    | with_reducible refine fw_12 (by decide) ?_
    | with_reducible refine fw_13 (by decide) ?_
    | with_reducible refine fw_15 (by decide) ?_
    | with_reducible refine fw_pJ ?_
    | with_reducible apply fw_v12_doQuote_130
    | split
    | dsimp only
theorem fw_v12_doQuote {q : PM}  {p : PM} (v1 : Int32) (v2 : Int32) (v3 : Int32) (v4 : Int32) (v5 : Int32)  (h : FW q p) : FW q (v12_doQuote p v1 v2 v3 v4 v5).2 := by
  unfold v12_doQuote bv12_doQuote
  repeat' first
    | with_reducible exact h
    | with_reducible refine fw_12 (by decide) ?_
    | with_reducible refine fw_13 (by decide) ?_
    | with_reducible refine fw_15 (by decide) ?_
    | with_reducible refine fw_pJ ?_
    | with_reducible apply fw_v12_doQuote_60
    | split
    | dsimp only
theorem fw_v12_doCancel {q : PM}  {p : PM} (v1 : Int32)  (h : FW q p) : FW q (v12_doCancel p v1).2 := by
  unfold v12_doCancel bv12_doCancel
  repeat' first
    | with_reducible exact h
    | with_reducible refine fw_12 (by decide) ?_
    | with_reducible refine fw_13 (by decide) ?_
    | with_reducible refine fw_15 (by decide) ?_
    | with_reducible refine fw_pJ ?_
    | split
    | dsimp only
theorem fw_v12_doRule_43 {q : PM}  {p : PM} (v1 : Int32) (v2 : Int32) (v3 : Int32) (v4 : Int32)  (h : FW q p) : FW q (v12_doRule_43 p v1 v2 v3 v4).2 := by
  unfold v12_doRule_43 bv12_doRule_43
  repeat' first
    | with_reducible exact h
    | with_reducible refine fw_12 (by decide) ?_
    | with_reducible refine fw_13 (by decide) ?_
    | with_reducible refine fw_15 (by decide) ?_
    | with_reducible refine fw_pJ ?_
    | split
    | dsimp only
theorem fw_v12_doRule {q : PM}  {p : PM} (v1 : Int32) (v2 : Int32) (v3 : Int32) (v4 : Int32)  (h : FW q p) : FW q (v12_doRule p v1 v2 v3 v4).2 := by
  unfold v12_doRule bv12_doRule
  repeat' first
    | with_reducible exact h
    | with_reducible refine fw_12 (by decide) ?_
    | with_reducible refine fw_13 (by decide) ?_
    | with_reducible refine fw_15 (by decide) ?_
    | with_reducible refine fw_pJ ?_
    | with_reducible apply fw_v12_doRule_43
    | split
    | dsimp only
theorem fw_v12_doAuction {q : PM}  {p : PM} (v1 : Int32) (v2 : Int32) (v3 : Int32) (v4 : Int32)  (h : FW q p) : FW q (v12_doAuction p v1 v2 v3 v4).2 := by
  unfold v12_doAuction bv12_doAuction
  repeat' first
    | with_reducible exact h
    | with_reducible refine fw_12 (by decide) ?_
    | with_reducible refine fw_13 (by decide) ?_
    | with_reducible refine fw_15 (by decide) ?_
    | with_reducible refine fw_pJ ?_
    | with_reducible apply fw_v12_beginsAuction
    | split
    | dsimp only
theorem fw_v12_undoes {q : PM}  {p : PM} (v1 : Int32) (v2 : Int32) (v3 : Int32)  (h : FW q p) : FW q (v12_undoes p v1 v2 v3) := by
  unfold v12_undoes bv12_undoes
  repeat' first
    | with_reducible exact h
    | with_reducible refine fw_12 (by decide) ?_
    | with_reducible refine fw_13 (by decide) ?_
    | with_reducible refine fw_15 (by decide) ?_
    | with_reducible refine fw_pJ ?_
    | with_reducible apply fw_v12_holds
    | split
    | dsimp only
theorem fw_v12_doBust_166 {q : PM}  : ∀ (n : Nat) {p : PM} (c0 : Int32) (c1 : Int32) (c2 : Int32), FW q p → FW q (v12_doBust_166 n p c0 c1 c2).2 := by
  intro n
  induction n with
  | zero =>
    intro p c0 c1 c2 h
    exact h
  | succ n ih =>
    intro p c0 c1 c2 h
    rw [ev12_doBust_166]
    unfold bv12_doBust_166
    repeat' first
      | with_reducible exact h
      | with_reducible apply ih
      | with_reducible refine fw_12 (by decide) ?_
      | with_reducible refine fw_13 (by decide) ?_
      | with_reducible refine fw_15 (by decide) ?_
      | with_reducible refine fw_pJ ?_
      | split
      | dsimp only
theorem fw_v12_doBust_16 {q : PM}  {p : PM} (v1 : Int32) (s0 : Int32)  (h : FW q p) : FW q (v12_doBust_16 p v1 s0).2 := by
  unfold v12_doBust_16 bv12_doBust_16
  repeat' first
    | with_reducible exact h
    | with_reducible refine fw_12 (by decide) ?_
    | with_reducible refine fw_13 (by decide) ?_
    | with_reducible refine fw_15 (by decide) ?_
    | with_reducible refine fw_pJ ?_
    | with_reducible apply fw_v12_undoes
    | with_reducible apply fw_v12_doBust_166
    | split
    | dsimp only
theorem fw_v12_doBust {q : PM}  {p : PM} (v1 : Int32)  (h : FW q p) : FW q (v12_doBust p v1).2 := by
  unfold v12_doBust bv12_doBust
  repeat' first
    | with_reducible exact h
    | with_reducible refine fw_12 (by decide) ?_
    | with_reducible refine fw_13 (by decide) ?_
    | with_reducible refine fw_15 (by decide) ?_
    | with_reducible refine fw_pJ ?_
    | with_reducible apply fw_v12_doBust_16
    | split
    | dsimp only
theorem fw_v12_doAdjust_16 {q : PM}  {p : PM} (v1 : Int32) (v2 : Int32) (s0 : Int32)  (h : FW q p) : FW q (v12_doAdjust_16 p v1 v2 s0).2 := by
  unfold v12_doAdjust_16 bv12_doAdjust_16
  repeat' first
    | with_reducible exact h
    | with_reducible refine fw_12 (by decide) ?_
    | with_reducible refine fw_13 (by decide) ?_
    | with_reducible refine fw_15 (by decide) ?_
    | with_reducible refine fw_pJ ?_
    | split
    | dsimp only
theorem fw_v12_doAdjust {q : PM}  {p : PM} (v1 : Int32) (v2 : Int32)  (h : FW q p) : FW q (v12_doAdjust p v1 v2).2 := by
  unfold v12_doAdjust bv12_doAdjust
  repeat' first
    | with_reducible exact h
    | with_reducible refine fw_12 (by decide) ?_
    | with_reducible refine fw_13 (by decide) ?_
    | with_reducible refine fw_15 (by decide) ?_
    | with_reducible refine fw_pJ ?_
    | with_reducible apply fw_v12_doAdjust_16
    | split
    | dsimp only
theorem fw_v12_doGiveUp_108 {q : PM}  {p : PM} (v2 : Int32) (v3 : Int32) (v4 : Int32) (s0 : Int32)  (h : FW q p) : FW q (v12_doGiveUp_108 p v2 v3 v4 s0).2 := by
  unfold v12_doGiveUp_108 bv12_doGiveUp_108
  repeat' first
    | with_reducible exact h
    | with_reducible refine fw_12 (by decide) ?_
    | with_reducible refine fw_13 (by decide) ?_
    | with_reducible refine fw_15 (by decide) ?_
    | with_reducible refine fw_pJ ?_
    | with_reducible apply fw_v12_undoes
    | split
    | dsimp only
theorem fw_v12_doGiveUp_70 {q : PM}  {p : PM} (v2 : Int32) (v3 : Int32) (v4 : Int32)  (h : FW q p) : FW q (v12_doGiveUp_70 p v2 v3 v4).2 := by
  unfold v12_doGiveUp_70 bv12_doGiveUp_70
  repeat' first
    | with_reducible exact h
    | with_reducible refine fw_12 (by decide) ?_
    | with_reducible refine fw_13 (by decide) ?_
    | with_reducible refine fw_15 (by decide) ?_
    | with_reducible refine fw_pJ ?_
    | with_reducible apply fw_v12_doGiveUp_108
    | split
    | dsimp only
theorem fw_v12_doGiveUp_16 {q : PM}  {p : PM} (v1 : Int32) (v2 : Int32) (v3 : Int32) (s0 : Int32)  (h : FW q p) : FW q (v12_doGiveUp_16 p v1 v2 v3 s0).2 := by
  unfold v12_doGiveUp_16 bv12_doGiveUp_16
  repeat' first
    | with_reducible exact h
    | with_reducible refine fw_12 (by decide) ?_
    | with_reducible refine fw_13 (by decide) ?_
    | with_reducible refine fw_15 (by decide) ?_
    | with_reducible refine fw_pJ ?_
    | with_reducible apply fw_v12_doGiveUp_70
    | with_reducible apply fw_v12_doGiveUp_108
    | split
    | dsimp only
theorem fw_v12_doGiveUp {q : PM}  {p : PM} (v1 : Int32) (v2 : Int32) (v3 : Int32)  (h : FW q p) : FW q (v12_doGiveUp p v1 v2 v3).2 := by
  unfold v12_doGiveUp bv12_doGiveUp
  repeat' first
    | with_reducible exact h
    | with_reducible refine fw_12 (by decide) ?_
    | with_reducible refine fw_13 (by decide) ?_
    | with_reducible refine fw_15 (by decide) ?_
    | with_reducible refine fw_pJ ?_
    | with_reducible apply fw_v12_doGiveUp_16
    | split
    | dsimp only
theorem fw_v12_doAllot_88 {q : PM}  {p : PM} (v1 : Int32) (v2 : Int32) (v3 : Int32) (v4 : Int32) (s0 : Int32)  (h : FW q p) : FW q (v12_doAllot_88 p v1 v2 v3 v4 s0).2 := by
  unfold v12_doAllot_88 bv12_doAllot_88
  repeat' first
    | with_reducible exact h
    | with_reducible refine fw_12 (by decide) ?_
    | with_reducible refine fw_13 (by decide) ?_
    | with_reducible refine fw_15 (by decide) ?_
    | with_reducible refine fw_pJ ?_
    | with_reducible apply fw_v12_holds
    | split
    | dsimp only
theorem fw_v12_doAllot_24 {q : PM}  {p : PM} (v1 : Int32) (v2 : Int32) (v3 : Int32) (v4 : Int32)  (h : FW q p) : FW q (v12_doAllot_24 p v1 v2 v3 v4).2 := by
  unfold v12_doAllot_24 bv12_doAllot_24
  repeat' first
    | with_reducible exact h
    | with_reducible refine fw_12 (by decide) ?_
    | with_reducible refine fw_13 (by decide) ?_
    | with_reducible refine fw_15 (by decide) ?_
    | with_reducible refine fw_pJ ?_
    | with_reducible apply fw_v12_doAllot_88
    | split
    | dsimp only
theorem fw_v12_doAllot_52 {q : PM}  {p : PM} (v1 : Int32) (v2 : Int32) (v3 : Int32) (v4 : Int32)  (h : FW q p) : FW q (v12_doAllot_52 p v1 v2 v3 v4).2 := by
  unfold v12_doAllot_52 bv12_doAllot_52
  repeat' first
    | with_reducible exact h
    | with_reducible refine fw_12 (by decide) ?_
    | with_reducible refine fw_13 (by decide) ?_
    | with_reducible refine fw_15 (by decide) ?_
    | with_reducible refine fw_pJ ?_
    | with_reducible apply fw_v12_doAllot_88
    | split
    | dsimp only
theorem fw_v12_doAllot {q : PM}  {p : PM} (v1 : Int32) (v2 : Int32) (v3 : Int32) (v4 : Int32)  (h : FW q p) : FW q (v12_doAllot p v1 v2 v3 v4).2 := by
  unfold v12_doAllot bv12_doAllot
  repeat' first
    | with_reducible exact h
    | with_reducible refine fw_12 (by decide) ?_
    | with_reducible refine fw_13 (by decide) ?_
    | with_reducible refine fw_15 (by decide) ?_
    | with_reducible refine fw_pJ ?_
    | with_reducible apply fw_v12_doAllot_24
    | with_reducible apply fw_v12_doAllot_52
    | with_reducible apply fw_v12_doAllot_88
    | split
    | dsimp only
theorem fw_v12_doExercise_117 {q : PM}  : ∀ (n : Nat) {p : PM} (c0 : Int32) (c1 : Int32) (c2 : Int32) (c3 : Int32), FW q p → FW q (v12_doExercise_117 n p c0 c1 c2 c3).2 := by
  intro n
  induction n with
  | zero =>
    intro p c0 c1 c2 c3 h
    exact h
  | succ n ih =>
    intro p c0 c1 c2 c3 h
    rw [ev12_doExercise_117]
    unfold bv12_doExercise_117
    repeat' first
      | with_reducible exact h
      | with_reducible apply ih
      | with_reducible refine fw_12 (by decide) ?_
      | with_reducible refine fw_13 (by decide) ?_
      | with_reducible refine fw_15 (by decide) ?_
      | with_reducible refine fw_pJ ?_
      | with_reducible apply fw_v12_holds
      | split
      | dsimp only
theorem fw_v12_doExercise {q : PM}  {p : PM} (v1 : Int32) (v2 : Int32) (v3 : Int32)  (h : FW q p) : FW q (v12_doExercise p v1 v2 v3).2 := by
  unfold v12_doExercise bv12_doExercise
  repeat' first
    | with_reducible exact h
    | with_reducible refine fw_12 (by decide) ?_
    | with_reducible refine fw_13 (by decide) ?_
    | with_reducible refine fw_15 (by decide) ?_
    | with_reducible refine fw_pJ ?_
    | with_reducible apply fw_v12_holds
    | with_reducible apply fw_v12_doExercise_117
    | split
    | dsimp only
theorem fw_v12_doConvert_267 {q : PM}  : ∀ (n : Nat) {p : PM} (c0 : Int32) (c1 : Int32) (c2 : Int32) (c3 : Int32) (c4 : Int64) (c5 : Int32), FW q p → FW q (v12_doConvert_267 n p c0 c1 c2 c3 c4 c5).2 := by
  intro n
  induction n with
  | zero =>
    intro p c0 c1 c2 c3 c4 c5 h
    exact h
  | succ n ih =>
    intro p c0 c1 c2 c3 c4 c5 h
    rw [ev12_doConvert_267]
    unfold bv12_doConvert_267
    repeat' first
      | with_reducible exact h
      | with_reducible apply ih
      | with_reducible refine fw_12 (by decide) ?_
      | with_reducible refine fw_13 (by decide) ?_
      | with_reducible refine fw_15 (by decide) ?_
      | with_reducible refine fw_pJ ?_
      | split
      | dsimp only
theorem fw_v12_doConvert_178 {q : PM}  : ∀ (n : Nat) {p : PM} (c0 : Int32) (c1 : Int32) (c2 : Int32) (c3 : Int32) (c4 : Int32), FW q p → FW q (v12_doConvert_178 n p c0 c1 c2 c3 c4).2 := by
  intro n
  induction n with
  | zero =>
    intro p c0 c1 c2 c3 c4 h
    exact h
  | succ n ih =>
    intro p c0 c1 c2 c3 c4 h
    rw [ev12_doConvert_178]
    unfold bv12_doConvert_178
    repeat' first
      | with_reducible exact h
      | with_reducible apply ih
      | with_reducible refine fw_12 (by decide) ?_
      | with_reducible refine fw_13 (by decide) ?_
      | with_reducible refine fw_15 (by decide) ?_
      | with_reducible refine fw_pJ ?_
      | with_reducible apply fw_v12_doConvert_267
      | split
      | dsimp only
theorem fw_v12_doConvert_127 {q : PM}  : ∀ (n : Nat) {p : PM} (c0 : Int32) (c1 : Int32) (c2 : Int32) (c3 : Int32) (c4 : Int32), FW q p → FW q (v12_doConvert_127 n p c0 c1 c2 c3 c4).2 := by
  intro n
  induction n with
  | zero =>
    intro p c0 c1 c2 c3 c4 h
    exact h
  | succ n ih =>
    intro p c0 c1 c2 c3 c4 h
    rw [ev12_doConvert_127]
    unfold bv12_doConvert_127
    repeat' first
      | with_reducible exact h
      | with_reducible apply ih
      | with_reducible refine fw_12 (by decide) ?_
      | with_reducible refine fw_13 (by decide) ?_
      | with_reducible refine fw_15 (by decide) ?_
      | with_reducible refine fw_pJ ?_
      | with_reducible apply fw_v12_doConvert_178
      | split
      | dsimp only
theorem fw_v12_doConvert_45 {q : PM}  : ∀ (n : Nat) {p : PM} (c0 : Int32) (c1 : Int32) (c2 : Int32) (c3 : Int32), FW q p → FW q (v12_doConvert_45 n p c0 c1 c2 c3).2 := by
  intro n
  induction n with
  | zero =>
    intro p c0 c1 c2 c3 h
    exact h
  | succ n ih =>
    intro p c0 c1 c2 c3 h
    rw [ev12_doConvert_45]
    unfold bv12_doConvert_45
    repeat' first
      | with_reducible exact h
      | with_reducible apply ih
      | with_reducible refine fw_12 (by decide) ?_
      | with_reducible refine fw_13 (by decide) ?_
      | with_reducible refine fw_15 (by decide) ?_
      | with_reducible refine fw_pJ ?_
      | with_reducible apply fw_v12_doConvert_127
      | split
      | dsimp only
theorem fw_v12_doConvert {q : PM}  {p : PM} (v1 : Int32) (v2 : Int32) (v3 : Int32)  (h : FW q p) : FW q (v12_doConvert p v1 v2 v3).2 := by
  unfold v12_doConvert bv12_doConvert
  repeat' first
    | with_reducible exact h
    | with_reducible refine fw_12 (by decide) ?_
    | with_reducible refine fw_13 (by decide) ?_
    | with_reducible refine fw_15 (by decide) ?_
    | with_reducible refine fw_pJ ?_
    | with_reducible apply fw_v12_doConvert_45
    | split
    | dsimp only
theorem fw_v12_doFund_43 {q : PM}  {p : PM} (v1 : Int32) (v2 : Int32) (s0 : Int32)  (h : FW q p) : FW q (v12_doFund_43 p v1 v2 s0).2 := by
  unfold v12_doFund_43 bv12_doFund_43
  repeat' first
    | with_reducible exact h
    | with_reducible refine fw_12 (by decide) ?_
    | with_reducible refine fw_13 (by decide) ?_
    | with_reducible refine fw_15 (by decide) ?_
    | with_reducible refine fw_pJ ?_
    | split
    | dsimp only
theorem fw_v12_doFund {q : PM}  {p : PM} (v1 : Int32) (v2 : Int32)  (h : FW q p) : FW q (v12_doFund p v1 v2).2 := by
  unfold v12_doFund bv12_doFund
  repeat' first
    | with_reducible exact h
    | with_reducible refine fw_12 (by decide) ?_
    | with_reducible refine fw_13 (by decide) ?_
    | with_reducible refine fw_15 (by decide) ?_
    | with_reducible refine fw_pJ ?_
    | with_reducible apply fw_v12_doFund_43
    | split
    | dsimp only
theorem fw_v12_doesMore_149 {q : PM}  {p : PM} (v2 : Int32) (s0 : Int32)  (h : FW q p) : FW q (v12_doesMore_149 p v2 s0).2 := by
  unfold v12_doesMore_149 bv12_doesMore_149
  repeat' first
    | with_reducible exact h
    | with_reducible refine fw_12 (by decide) ?_
    | with_reducible refine fw_13 (by decide) ?_
    | with_reducible refine fw_15 (by decide) ?_
    | with_reducible refine fw_pJ ?_
    | split
    | dsimp only

