/-! what an order is stays, in the reference; and who lives lived -/
def FC (q q' : PM) : Prop := ∀ i, (q'.1 13 15 i = q.1 13 15 i ∧ q'.1 13 16 i = q.1 13 16 i ∧ q'.1 13 19 i = q.1 13 19 i) ∧ q'.1 15 4 i = q.1 15 4 i
theorem fc_refl (q : PM) : FC q q := fun _ => ⟨⟨rfl, rfl, rfl⟩, rfl⟩
theorem fc_pI {q p : PM} {k i s : Nat} {v : Int32} (hk : ¬ (k = 13 ∧ (i = 15 ∨ i = 16 ∨ i = 19)) ∧ ¬ (k = 15 ∧ i = 4)) (h : FC q p) : FC q (pI p k i s v) := by
  intro j
  have e : ∀ K, (K = 15 ∨ K = 16 ∨ K = 19) → (pI p k i s v).1 13 K j = p.1 13 K j := by
    intro K hK
    rw [pI_1]
    by_cases e : 13 = k
    · rw [u3_i (fun e2 => hk.1 ⟨e.symm, by omega⟩)]
    · rw [u3_k e]
  have e4 : (pI p k i s v).1 15 4 j = p.1 15 4 j := by
    rw [pI_1]
    by_cases e : 15 = k
    · rw [u3_i (fun e2 => hk.2 ⟨e.symm, by omega⟩)]
    · rw [u3_k e]
  rw [e 15 (by omega), e 16 (by omega), e 19 (by omega), e4]
  exact h j
theorem fc_pJ {q p : PM} {k i s : Nat} {v : Int64} (h : FC q p) : FC q (pJ p k i s v) := h
theorem fc_v12_newTurn {q : PM}  {p : PM} (v1 : Int32)  (h : FC q p) : FC q (v12_newTurn p v1) := by
  unfold v12_newTurn bv12_newTurn
  repeat' first
    | with_reducible exact h
    | with_reducible refine fc_pI (by decide) ?_
    | with_reducible refine fc_pJ ?_
    | split
    | dsimp only
theorem fc_v12_showsAnew {q : PM}  {p : PM} (v1 : Int32)  (h : FC q p) : FC q (v12_showsAnew p v1) := by
  unfold v12_showsAnew bv12_showsAnew
  repeat' first
    | with_reducible exact h
    | with_reducible refine fc_pI (by decide) ?_
    | with_reducible refine fc_pJ ?_
    | split
    | dsimp only
theorem fc_v12_comes {q : PM}  {p : PM} (v1 : Int32)  (h : FC q p) : FC q (v12_comes p v1) := by
  unfold v12_comes bv12_comes
  repeat' first
    | with_reducible exact h
    | with_reducible refine fc_pI (by decide) ?_
    | with_reducible refine fc_pJ ?_
    | with_reducible apply fc_v12_newTurn
    | with_reducible apply fc_v12_showsAnew
    | split
    | dsimp only
theorem fc_v12_clearsGets_2 {q : PM}  : ∀ (n : Nat) {p : PM} (c0 : Int32), FC q p → FC q (v12_clearsGets_2 n p c0) := by
  intro n
  induction n with
  | zero =>
    intro p c0 h
    exact h
  | succ n ih =>
    intro p c0 h
    rw [ev12_clearsGets_2]
    unfold bv12_clearsGets_2
    repeat' first
      | with_reducible exact h
      | with_reducible apply ih
      | with_reducible refine fc_pI (by decide) ?_
      | with_reducible refine fc_pJ ?_
      | split
      | dsimp only
theorem fc_v12_clearsGets {q : PM}  {p : PM}   (h : FC q p) : FC q (v12_clearsGets p) := by
  unfold v12_clearsGets bv12_clearsGets
  repeat' first
    | with_reducible exact h
    | with_reducible refine fc_pI (by decide) ?_
    | with_reducible refine fc_pJ ?_
    | with_reducible apply fc_v12_clearsGets_2
    | split
    | dsimp only
theorem fc_v12_sharesByTurns_14 {q : PM}  : ∀ (n : Nat) {p : PM} (c0 : Int32) (c1 : Int32) (c2 : Int32) (c3 : Int32) (c4 : Int32), FC q p → FC q (v12_sharesByTurns_14 n p c0 c1 c2 c3 c4) := by
  intro n
  induction n with
  | zero =>
    intro p c0 c1 c2 c3 c4 h
    exact h
  | succ n ih =>
    intro p c0 c1 c2 c3 c4 h
    rw [ev12_sharesByTurns_14]
    unfold bv12_sharesByTurns_14
    repeat' first
      | with_reducible exact h
      | with_reducible apply ih
      | with_reducible refine fc_pI (by decide) ?_
      | with_reducible refine fc_pJ ?_
      | split
      | dsimp only
theorem fc_v12_sharesByTurns {q : PM}  {p : PM} (v1 : Int32) (v2 : Int32) (v3 : Int32) (v4 : Int32)  (h : FC q p) : FC q (v12_sharesByTurns p v1 v2 v3 v4) := by
  unfold v12_sharesByTurns bv12_sharesByTurns
  repeat' first
    | with_reducible exact h
    | with_reducible refine fc_pI (by decide) ?_
    | with_reducible refine fc_pJ ?_
    | with_reducible apply fc_v12_sharesByTurns_14
    | split
    | dsimp only
theorem fc_v12_sharesBySize_17 {q : PM}  : ∀ (n : Nat) {p : PM} (c0 : Int32) (c1 : Int32) (c2 : Int32) (c3 : Int32) (c4 : Int32), FC q p → FC q (v12_sharesBySize_17 n p c0 c1 c2 c3 c4) := by
  intro n
  induction n with
  | zero =>
    intro p c0 c1 c2 c3 c4 h
    exact h
  | succ n ih =>
    intro p c0 c1 c2 c3 c4 h
    rw [ev12_sharesBySize_17]
    unfold bv12_sharesBySize_17
    repeat' first
      | with_reducible exact h
      | with_reducible apply ih
      | with_reducible refine fc_pI (by decide) ?_
      | with_reducible refine fc_pJ ?_
      | split
      | dsimp only
theorem fc_v12_sharesBySize {q : PM}  {p : PM} (v1 : Int32) (v2 : Int32) (v3 : Int32) (v4 : Int32)  (h : FC q p) : FC q (v12_sharesBySize p v1 v2 v3 v4) := by
  unfold v12_sharesBySize bv12_sharesBySize
  repeat' first
    | with_reducible exact h
    | with_reducible refine fc_pI (by decide) ?_
    | with_reducible refine fc_pJ ?_
    | with_reducible apply fc_v12_sharesBySize_17
    | split
    | dsimp only
theorem fc_v12_sharesOut_229 {q : PM} {kv207 : PM → Int32 → Int32 → Int32 → Int32 → Int32 → Int32 → PM} (hkv207 : ∀ {p : PM} (a1 : Int32) (a2 : Int32) (a3 : Int32) (a4 : Int32) (a5 : Int32) (a6 : Int32), FC q p → FC q (kv207 p a1 a2 a3 a4 a5 a6)) : ∀ (n : Nat) {p : PM} (c0 : Int32) (c1 : Int32) (c2 : Int32) (c3 : Int32) (c4 : Int32) (c5 : Int32) (c6 : Int32), FC q p → FC q (v12_sharesOut_229 kv207 n p c0 c1 c2 c3 c4 c5 c6) := by
  intro n
  induction n with
  | zero =>
    intro p c0 c1 c2 c3 c4 c5 c6 h
    exact h
  | succ n ih =>
    intro p c0 c1 c2 c3 c4 c5 c6 h
    rw [ev12_sharesOut_229]
    unfold bv12_sharesOut_229
    repeat' first
      | with_reducible exact h
      | with_reducible apply ih
      | with_reducible apply hkv207
      | with_reducible refine fc_pI (by decide) ?_
      | with_reducible refine fc_pJ ?_
      | split
      | dsimp only
theorem fc_v12_sharesOut_207 {q : PM}  : ∀ (n : Nat) {p : PM} (c0 : Int32) (c1 : Int32) (c2 : Int32) (c3 : Int32) (c4 : Int32) (c5 : Int32), FC q p → FC q (v12_sharesOut_207 n p c0 c1 c2 c3 c4 c5) := by
  intro n
  induction n with
  | zero =>
    intro p c0 c1 c2 c3 c4 c5 h
    exact h
  | succ n ih =>
    intro p c0 c1 c2 c3 c4 c5 h
    rw [ev12_sharesOut_207]
    unfold bv12_sharesOut_207
    repeat' first
      | with_reducible exact h
      | with_reducible apply ih
      | with_reducible refine fc_pI (by decide) ?_
      | with_reducible refine fc_pJ ?_
      | with_reducible apply fc_v12_sharesOut_229
      | split
      | dsimp only
theorem fc_v12_sharesOut_116 {q : PM}  : ∀ (n : Nat) {p : PM} (c0 : Int32) (c1 : Int32) (c2 : Int32) (c3 : Int32) (c4 : Int32) (c5 : Int32) (c6 : Int32), FC q p → FC q (v12_sharesOut_116 n p c0 c1 c2 c3 c4 c5 c6) := by
  intro n
  induction n with
  | zero =>
    intro p c0 c1 c2 c3 c4 c5 c6 h
    exact h
  | succ n ih =>
    intro p c0 c1 c2 c3 c4 c5 c6 h
    rw [ev12_sharesOut_116]
    unfold bv12_sharesOut_116
    repeat' first
      | with_reducible exact h
      | with_reducible apply ih
      | with_reducible refine fc_pI (by decide) ?_
      | with_reducible refine fc_pJ ?_
      | with_reducible apply fc_v12_sharesOut_207
      | split
      | dsimp only
theorem fc_v12_sharesOut_61 {q : PM}  : ∀ (n : Nat) {p : PM} (c0 : Int32) (c1 : Int32) (c2 : Int32) (c3 : Int32) (c4 : Int32) (c5 : Int32), FC q p → FC q (v12_sharesOut_61 n p c0 c1 c2 c3 c4 c5) := by
  intro n
  induction n with
  | zero =>
    intro p c0 c1 c2 c3 c4 c5 h
    exact h
  | succ n ih =>
    intro p c0 c1 c2 c3 c4 c5 h
    rw [ev12_sharesOut_61]
    unfold bv12_sharesOut_61
    repeat' first
      | with_reducible exact h
      | with_reducible apply ih
      | with_reducible refine fc_pI (by decide) ?_
      | with_reducible refine fc_pJ ?_
      | with_reducible apply fc_v12_sharesOut_116
      | split
      | dsimp only
theorem fc_v12_sharesOut {q : PM}  {p : PM} (v1 : Int32) (v2 : Int32) (v3 : Int32) (v4 : Int32)  (h : FC q p) : FC q (v12_sharesOut p v1 v2 v3 v4) := by
  unfold v12_sharesOut bv12_sharesOut
  repeat' first
    | with_reducible exact h
    | with_reducible refine fc_pI (by decide) ?_
    | with_reducible refine fc_pJ ?_
    | with_reducible apply fc_v12_sharesOut_61
    | split
    | dsimp only
theorem fc_v12_holds {q : PM}  {p : PM} (v1 : Int32) (v2 : Int32) (v3 : Int32) (v4 : Int32)  (h : FC q p) : FC q (v12_holds p v1 v2 v3 v4) := by
  unfold v12_holds bv12_holds
  repeat' first
    | with_reducible exact h
    | with_reducible refine fc_pI (by decide) ?_
    | with_reducible refine fc_pJ ?_
    | split
    | dsimp only
theorem fc_v12_deals {q : PM}  {p : PM} (v1 : Int32) (v2 : Int32) (v3 : Int32) (v4 : Int32) (v5 : Int32)  (h : FC q p) : FC q (v12_deals p v1 v2 v3 v4 v5) := by
  unfold v12_deals bv12_deals
  repeat' first
    | with_reducible exact h
    | with_reducible refine fc_pI (by decide) ?_
    | with_reducible refine fc_pJ ?_
    | with_reducible apply fc_v12_holds
    | split
    | dsimp only
theorem fc_v12_falls {q : PM}  {p : PM} (v1 : Int32) (v2 : Int32) (v3 : Int32)  (h : FC q p) : FC q (v12_falls p v1 v2 v3) := by
  unfold v12_falls bv12_falls
  repeat' first
    | with_reducible exact h
    | with_reducible refine fc_pI (by decide) ?_
    | with_reducible refine fc_pJ ?_
    | split
    | dsimp only
theorem fc_v12_guards_50 {q : PM}  : ∀ (n : Nat) {p : PM} (c0 : Int32) (c1 : Int32), FC q p → FC q (v12_guards_50 n p c0 c1) := by
  intro n
  induction n with
  | zero =>
    intro p c0 c1 h
    exact h
  | succ n ih =>
    intro p c0 c1 h
    rw [ev12_guards_50]
    unfold bv12_guards_50
    repeat' first
      | with_reducible exact h
      | with_reducible apply ih
      | with_reducible refine fc_pI (by decide) ?_
      | with_reducible refine fc_pJ ?_
      | split
      | dsimp only
theorem fc_v12_guards {q : PM}  {p : PM} (v1 : Int32)  (h : FC q p) : FC q (v12_guards p v1) := by
  unfold v12_guards bv12_guards
  repeat' first
    | with_reducible exact h
    | with_reducible refine fc_pI (by decide) ?_
    | with_reducible refine fc_pJ ?_
    | with_reducible apply fc_v12_guards_50
    | split
    | dsimp only
theorem fc_v12_tradesWith_49 {q : PM}  {p : PM} (v1 : Int32) (v2 : Int32) (v3 : Int32) (v4 : Int32) (s0 : Int32)  (h : FC q p) : FC q (v12_tradesWith_49 p v1 v2 v3 v4 s0) := by
  unfold v12_tradesWith_49 bv12_tradesWith_49
  repeat' first
    | with_reducible exact h
    | with_reducible refine fc_pI (by decide) ?_
    | with_reducible refine fc_pJ ?_
    | with_reducible apply fc_v12_newTurn
    | with_reducible apply fc_v12_showsAnew
    | with_reducible apply fc_v12_deals
    | with_reducible apply fc_v12_falls
    | with_reducible apply fc_v12_guards
    | split
    | dsimp only
theorem fc_v12_tradesWith {q : PM}  {p : PM} (v1 : Int32) (v2 : Int32) (v3 : Int32)  (h : FC q p) : FC q (v12_tradesWith p v1 v2 v3) := by
  unfold v12_tradesWith bv12_tradesWith
  repeat' first
    | with_reducible exact h
    | with_reducible refine fc_pI (by decide) ?_
    | with_reducible refine fc_pJ ?_
    | with_reducible apply fc_v12_tradesWith_49
    | split
    | dsimp only
theorem fc_v12_servesAll_147 {q : PM}  : ∀ (n : Nat) {p : PM} (c0 : Int32) (c1 : Int32) (c2 : Int32) (c3 : Int32) (c4 : Int32), FC q p → FC q (v12_servesAll_147 n p c0 c1 c2 c3 c4) := by
  intro n
  induction n with
  | zero =>
    intro p c0 c1 c2 c3 c4 h
    exact h
  | succ n ih =>
    intro p c0 c1 c2 c3 c4 h
    rw [ev12_servesAll_147]
    unfold bv12_servesAll_147
    repeat' first
      | with_reducible exact h
      | with_reducible apply ih
      | with_reducible refine fc_pI (by decide) ?_
      | with_reducible refine fc_pJ ?_
      | with_reducible apply fc_v12_tradesWith
      | split
      | dsimp only
theorem fc_v12_servesAll_30 {q : PM}  : ∀ (n : Nat) {p : PM} (c0 : Int32) (c1 : Int32) (c2 : Int32) (c3 : Int32) (c4 : Int32), FC q p → FC q (v12_servesAll_30 n p c0 c1 c2 c3 c4) := by
  intro n
  induction n with
  | zero =>
    intro p c0 c1 c2 c3 c4 h
    exact h
  | succ n ih =>
    intro p c0 c1 c2 c3 c4 h
    rw [ev12_servesAll_30]
    unfold bv12_servesAll_30
    repeat' first
      | with_reducible exact h
      | with_reducible apply ih
      | with_reducible refine fc_pI (by decide) ?_
      | with_reducible refine fc_pJ ?_
      | with_reducible apply fc_v12_sharesByTurns
      | with_reducible apply fc_v12_sharesBySize
      | with_reducible apply fc_v12_sharesOut
      | with_reducible apply fc_v12_servesAll_147
      | split
      | dsimp only
theorem fc_v12_servesAll {q : PM}  {p : PM} (v1 : Int32) (v2 : Int32)  (h : FC q p) : FC q (v12_servesAll p v1 v2) := by
  unfold v12_servesAll bv12_servesAll
  repeat' first
    | with_reducible exact h
    | with_reducible refine fc_pI (by decide) ?_
    | with_reducible refine fc_pJ ?_
    | with_reducible apply fc_v12_clearsGets
    | with_reducible apply fc_v12_servesAll_30
    | split
    | dsimp only
theorem fc_v12_removesOwn_2 {q : PM}  : ∀ (n : Nat) {p : PM} (c0 : Int32) (c1 : Int32) (c2 : Int32), FC q p → FC q (v12_removesOwn_2 n p c0 c1 c2) := by
  intro n
  induction n with
  | zero =>
    intro p c0 c1 c2 h
    exact h
  | succ n ih =>
    intro p c0 c1 c2 h
    rw [ev12_removesOwn_2]
    unfold bv12_removesOwn_2
    repeat' first
      | with_reducible exact h
      | with_reducible apply ih
      | with_reducible refine fc_pI (by decide) ?_
      | with_reducible refine fc_pJ ?_
      | split
      | dsimp only
theorem fc_v12_removesOwn {q : PM}  {p : PM} (v1 : Int32) (v2 : Int32)  (h : FC q p) : FC q (v12_removesOwn p v1 v2) := by
  unfold v12_removesOwn bv12_removesOwn
  repeat' first
    | with_reducible exact h
    | with_reducible refine fc_pI (by decide) ?_
    | with_reducible refine fc_pJ ?_
    | with_reducible apply fc_v12_removesOwn_2
    | split
    | dsimp only
theorem fc_v12_beginsAuction {q : PM}  {p : PM} (v1 : Int32) (v2 : Int32) (v3 : Int32)  (h : FC q p) : FC q (v12_beginsAuction p v1 v2 v3) := by
  unfold v12_beginsAuction bv12_beginsAuction
  repeat' first
    | with_reducible exact h
    | with_reducible refine fc_pI (by decide) ?_
    | with_reducible refine fc_pJ ?_
    | split
    | dsimp only
theorem fc_v12_looks_64 {q : PM}  {p : PM} (v1 : Int32) (v2 : Int32) (v3 : Int32)  (h : FC q p) : FC q (v12_looks_64 p v1 v2 v3).2 := by
  unfold v12_looks_64 bv12_looks_64
  repeat' first
    | with_reducible exact h
    | with_reducible refine fc_pI (by decide) ?_
    | with_reducible refine fc_pJ ?_
    | with_reducible apply fc_v12_servesAll
    | with_reducible apply fc_v12_removesOwn
    | with_reducible apply fc_v12_beginsAuction
    | split
    | dsimp only
theorem fc_v12_looks {q : PM}  {p : PM} (v1 : Int32)  (h : FC q p) : FC q (v12_looks p v1).2 := by
  unfold v12_looks bv12_looks
  repeat' first
    | with_reducible exact h
    | with_reducible refine fc_pI (by decide) ?_
    | with_reducible refine fc_pJ ?_
    | with_reducible apply fc_v12_looks_64
    | split
    | dsimp only
theorem fc_v12_matches_9 {q : PM}  : ∀ (n : Nat) {p : PM} (c0 : Int32) (c1 : Int32), FC q p → FC q (v12_matches_9 n p c0 c1) := by
  intro n
  induction n with
  | zero =>
    intro p c0 c1 h
    exact h
  | succ n ih =>
    intro p c0 c1 h
    rw [ev12_matches_9]
    unfold bv12_matches_9
    repeat' first
      | with_reducible exact h
      | with_reducible apply ih
      | with_reducible refine fc_pI (by decide) ?_
      | with_reducible refine fc_pJ ?_
      | with_reducible apply fc_v12_comes
      | with_reducible apply fc_v12_looks
      | split
      | dsimp only
theorem fc_v12_matches {q : PM}  {p : PM} (v1 : Int32)  (h : FC q p) : FC q (v12_matches p v1) := by
  unfold v12_matches bv12_matches
  repeat' first
    | with_reducible exact h
    | with_reducible refine fc_pI (by decide) ?_
    | with_reducible refine fc_pJ ?_
    | with_reducible apply fc_v12_matches_9
    | split
    | dsimp only
theorem fc_v12_enters {q : PM}  {p : PM} (v1 : Int32)  (h : FC q p) : FC q (v12_enters p v1) := by
  unfold v12_enters bv12_enters
  repeat' first
    | with_reducible exact h
    | with_reducible refine fc_pI (by decide) ?_
    | with_reducible refine fc_pJ ?_
    | with_reducible apply fc_v12_comes
    | with_reducible apply fc_v12_matches
    | split
    | dsimp only
theorem LC_mono {q q' : PM} : ∀ n, (∀ i, i < n → ¬ q'.1 15 3 i = 0 → ¬ q.1 15 3 i = 0) → LC q' n ≤ LC q n
  | 0, _ => Nat.le_refl _
  | n + 1, h => by
    have a := LC_mono n fun i hi => h i (by omega)
    have b := h n (by omega)
    show LC q' n + (if q'.1 15 3 n = 0 then 0 else 1) ≤ LC q n + (if q.1 15 3 n = 0 then 0 else 1)
    by_cases e : q'.1 15 3 n = 0
    · rw [if_pos e]
      omega
    · rw [if_neg e, if_neg (b e)]
      omega
theorem LC_new {q q' : PM} {x : Nat} : ∀ n, (∀ i, i < n → ¬ i = x → ¬ q'.1 15 3 i = 0 → ¬ q.1 15 3 i = 0) → LC q' n ≤ LC q n + (if x < n then 1 else 0)
  | 0, _ => Nat.zero_le _
  | n + 1, h => by
    have a := LC_new n fun i hi => h i (by omega)
    show LC q' n + (if q'.1 15 3 n = 0 then 0 else 1) ≤ LC q n + (if q.1 15 3 n = 0 then 0 else 1) + (if x < n + 1 then 1 else 0)
    by_cases e : n = x
    · rw [if_neg (by omega)] at a
      rw [if_pos (show x < n + 1 by omega)]
      split <;> split <;> omega
    · have b := h n (by omega) e
      have c : (if x < n + 1 then 1 else 0) = (if x < n then 1 else 0) := by
        by_cases e2 : x < n
        · rw [if_pos e2, if_pos (by omega)]
        · rw [if_neg e2, if_neg (by omega)]
      rw [c]
      by_cases e : q'.1 15 3 n = 0
      · rw [if_pos e]
        omega
      · rw [if_neg e, if_neg (b e)]
        omega
section Same
variable {p q p' q' : PM} {lg : Nat → Int32} {x b N T D l : Nat}
/-- who lives after a match lived before it -/
theorem fl_live {x y x' y' : Nat} (H : OR p q x y) (H' : OR p' q' x' y') (h : FL p p') : ∀ i, i < 40 → ¬ q'.1 15 3 i = 0 → ¬ q.1 15 3 i = 0 := by
  intro i hi h1 h2
  have a : (p.1 10 (i + 1) 2 = 0) = (q.1 15 3 i = 0) := slot_gone (H.1 i hi)
  have b : (p'.1 10 (i + 1) 2 = 0) = (q'.1 15 3 i = 0) := slot_gone (H'.1 i hi)
  rw [← a] at h2
  have c := h (i + 1) h2
  rw [b] at c
  exact h1 c
theorem fl_place (H : OR p q x 99) (hx : x < 40) (hl : q.1 15 3 x = cn 1) : FL p (v5_place p (x + 1)) := by
  have hn : ¬ p.1 10 (x + 1) 2 = 0 := by
    have a : (p.1 10 (x + 1) 2 = 0) = (q.1 15 3 x = 0) := slot_gone (H.1 x hx)
    rw [a, hl]
    exact cn01
  unfold v5_place bv5_place
  by_cases e : p.1 1 (p.2.2 10 (x + 1) 4) 5 = 0
  · rw [if_pos e]
    exact fl_v8_match _ (fl_refl p)
  · rw [if_neg e]
    exact fl_v6_stand _ hn (fl_refl p)
/-- a number is passed over -/
theorem ww_num (H : WW p q lg 99 99 (fun _ => False) N T D l (fun _ => 0)) (hN : N + 1 ≤ 1000000) : WW (pI p 6 1 4 (cn (N + 1 : Nat))) (pI q 12 1 39 (cn (N + 1 : Nat))) lg 99 99 (fun _ => False) (N + 1) T D l (fun _ => 0) ∧ RS (pI q 12 1 39 (cn (N + 1 : Nat))) 40 = RS q 40 := by
  obtain ⟨⟨hO, hNR, hTR, hQU⟩, hA, hB, hD, hK, hI0, hI, hF⟩ := H
  have pk : ∀ K, ¬ K = 6 → (pI p 6 1 4 (cn (N + 1 : Nat))).1 K = p.1 K := by
    intro K h
    funext i S
    rw [pI_1, u3_k h]
  have p6 : ∀ S, ¬ S = 4 → (pI p 6 1 4 (cn (N + 1 : Nat))).1 6 1 S = p.1 6 1 S := fun S h => by rw [pI_1, u3_s h]
  have qk : ∀ K, ¬ K = 12 → (pI q 12 1 39 (cn (N + 1 : Nat))).1 K = q.1 K := by
    intro K h
    funext i S
    rw [pI_1, u3_k h]
  have q12 : ∀ S, ¬ S = 39 → (pI q 12 1 39 (cn (N + 1 : Nat))).1 12 1 S = q.1 12 1 S := fun S h => by rw [pI_1, u3_s h]
  have hRS : RS (pI q 12 1 39 (cn (N + 1 : Nat))) 40 = RS q 40 := RS_same 40 fun i _ => by
    unfold rs
    rw [qk 15 (by decide), qk 13 (by decide)]
  refine ⟨⟨⟨?_, ?_, ?_, ?_⟩, ?_, ?_, ?_, ?_, ?_, ?_, ?_⟩, hRS⟩
  · refine ⟨fun i hi => ?_, fun i h1 h2 => ?_⟩
    · exact slot_congr (fun _ => by rw [pk 10 (by decide)]) (fun _ => rfl) (fun K _ _ _ => by rw [qk 13 (by decide)]) (fun K _ _ => by rw [qk 15 (by decide)]) rfl (hO.1 i hi)
    · rw [qk 15 (by decide)]
      exact hO.2 i h1 h2
  · unfold NR at hNR ⊢
    rw [qk 15 (by decide), qk 13 (by decide)]
    exact ⟨hNR.1, fun i hi li => by
      obtain ⟨n, n1, n2⟩ := hNR.2.1 i hi li
      exact ⟨n, by omega, n2⟩, pI_at, pI_at, hN⟩
  · unfold TR stnd at hTR ⊢
    rw [qk 15 (by decide), qk 13 (by decide), pk 10 (by decide), p6 5 (by decide), q12 40 (by decide)]
    exact hTR
  · unfold QU at hQU ⊢
    rw [qk 15 (by decide), qk 13 (by decide)]
    exact hQU
  · exact af_c (pk 0 (by decide)) (fun i _ => by rw [pk 13 (by decide)]) rfl (by rw [qk 13 (by decide)]) (by rw [qk 13 (by decide)]) (by rw [qk 13 (by decide)]) (by rw [qk 13 (by decide)]) (by rw [qk 13 (by decide)]) (by rw [qk 15 (by decide)]) rfl hA
  · exact brl_c (pk 1 (by decide)) (fun i k1 k2 => by rw [qk 13 (by decide)]) (by rw [qk 15 (by decide)]) hB
  · exact dr_c (pk 4 (by decide)) (pk 7 (by decide)) rfl (fun i k1 k2 => by rw [qk 13 (by decide)]) (by rw [qk 15 (by decide)]) (by rw [qk 15 (by decide)]) (q12 48 (by decide)) hD
  · exact ck_c (pk 0 (by decide)) (pk 1 (by decide)) hK
  · exact ot_c (pk 9 (by decide)) (fun i _ => by rw [pk 13 (by decide)]) (pk 2 (by decide)) (p6 2 (by decide)) (p6 3 (by decide)) (fun i k1 k2 => by rw [qk 13 (by decide)]) (by rw [qk 15 (by decide)]) (by rw [qk 15 (by decide)]) (fun i h => q12 i (by omega)) hI0 (pd_c (by rw [qk 13 (by decide)]) (q12 48 (by decide)) rfl hI0)
  · exact iq_c (fun K _ _ => by rw [qk 13 (by decide)]) (fun K _ _ => by rw [qk 15 (by decide)]) (by rw [qk 13 (by decide)]) (by rw [qk 13 (by decide)]) (q12 17 (by decide)) hI
  · refine ⟨fun c hc => ?_, ?_⟩
    rotate_left
    · obtain ⟨zb, L, b1, b2, b3, b4, b5⟩ := hF.2
      exact ⟨zb, L, by rw [qk 13 (by decide)]; exact b1, by rw [q12 95 (by decide)]; exact b2, b3, by rw [hRS]; exact b4, by omega⟩
    obtain ⟨zz, z1, z2, z3⟩ := hF.1 c hc
    refine ⟨zz, by rw [qk 13 (by decide)]; exact z1, z2, ?_⟩
    rw [hRS]
    have e : ((N + 1 : Nat) : Int) = (N : Int) + 1 := by omega
    rw [e]
    omega
theorem rs_mk (M : Mk p p' q q') (H : OR p q 99 99) : RS q' 40 ≤ RS q 40 := by
  refine RS_le 40 fun i hi => ?_
  have h0 := (rs_rng (H.1 i hi)).1
  unfold rs at h0 ⊢
  rw [M.2.2.2.1 13 17 (by decide)]
  rcases M.2.2.2.2.2.1 i hi with ⟨-, e⟩ | ⟨-, e⟩
  · rw [e]
    exact Int.le_refl _
  · rw [e, if_pos cn0e']
    exact h0
end Same
