/-! the class's orders keep their numbers -/
def FN (q q' : PM) : Prop := ∀ i, q'.1 10 i 0 = q.1 10 i 0
theorem fn_refl (q : PM) : FN q q := fun _ => rfl
theorem fn_pI {q p : PM} {k i s : Nat} {v : Int32} (hk : ¬ (k = 10 ∧ s = 0)) (h : FN q p) : FN q (pI p k i s v) := by
  intro j
  have e1 : (pI p k i s v).1 10 j 0 = p.1 10 j 0 := by
    rw [pI_1]
    by_cases e : 10 = k
    · rw [u3_s (fun e2 => hk ⟨e.symm, e2.symm⟩)]
    · rw [u3_k e]
  rw [e1]
  exact h j
theorem fn_pk {q p : PM} {k i s : Nat} {v : Int32} (hk : ¬ k = 10) (h : FN q p) : FN q (pI p k i s v) := fn_pI (fun e => hk e.1) h
theorem fn_ps {q p : PM} {k i s : Nat} {v : Int32} (hs : ¬ s = 0) (h : FN q p) : FN q (pI p k i s v) := fn_pI (fun e => hs e.2) h
theorem fn_pJ {q p : PM} {k i s : Nat} {v : Int64} (h : FN q p) : FN q (pJ p k i s v) := h
theorem fn_pR {q p : PM} {k i s r : Nat} (h : FN q p) : FN q (pR p k i s r) := h
theorem fn_v6_nextTurn {q : PM}  {p : PM}   (h : FN q p) : FN q (v6_nextTurn p).2 := by
  unfold v6_nextTurn bv6_nextTurn
  repeat' first
    | with_reducible exact h
    | with_reducible refine fn_pk (by decide) ?_
    | with_reducible refine fn_ps (by decide) ?_
    | with_reducible refine fn_pR ?_
    | with_reducible refine fn_pJ ?_
    | split
    | dsimp only
theorem fn_v6_stand {q : PM}  {p : PM} (v1 : Nat)  (h : FN q p) : FN q (v6_stand p v1) := by
  unfold v6_stand bv6_stand
  repeat' first
    | with_reducible exact h
    | with_reducible refine fn_pk (by decide) ?_
    | with_reducible refine fn_ps (by decide) ?_
    | with_reducible refine fn_pR ?_
    | with_reducible refine fn_pJ ?_
    | with_reducible apply fn_v6_nextTurn
    | split
    | dsimp only
theorem fn_v8_settle {q : PM}  {p : PM} (v1 : Nat)  (h : FN q p) : FN q (v8_settle p v1) := by
  unfold v8_settle bv8_settle
  repeat' first
    | with_reducible exact h
    | with_reducible refine fn_pk (by decide) ?_
    | with_reducible refine fn_ps (by decide) ?_
    | with_reducible refine fn_pR ?_
    | with_reducible refine fn_pJ ?_
    | with_reducible apply fn_v6_stand
    | split
    | dsimp only
theorem fn_v6_beginAuction {q : PM}  {p : PM} (v1 : Nat) (v2 : Int32) (v3 : Int32)  (h : FN q p) : FN q (v6_beginAuction p v1 v2 v3).2 := by
  unfold v6_beginAuction bv6_beginAuction
  repeat' first
    | with_reducible exact h
    | with_reducible refine fn_pk (by decide) ?_
    | with_reducible refine fn_ps (by decide) ?_
    | with_reducible refine fn_pR ?_
    | with_reducible refine fn_pJ ?_
    | split
    | dsimp only
theorem fn_v8_gather_91 {q : PM} {kv37 : PM → Nat → Int32 → Int32 → Int32 → Int32 → Int32 × PM} (hkv37 : ∀ {p : PM} (a1 : Nat) (a2 : Int32) (a3 : Int32) (a4 : Int32) (a5 : Int32), FN q p → FN q (kv37 p a1 a2 a3 a4 a5).2) : ∀ (n : Nat) {p : PM} (c0 : Nat) (c1 : Int32) (c2 : Int32) (c3 : Int32) (c4 : Int32) (c5 : Nat) (c6 : Int32), FN q p → FN q (v8_gather_91 kv37 n p c0 c1 c2 c3 c4 c5 c6).2 := by
  intro n
  induction n with
  | zero =>
    intro p c0 c1 c2 c3 c4 c5 c6 h
    exact h
  | succ n ih =>
    intro p c0 c1 c2 c3 c4 c5 c6 h
    rw [ev8_gather_91]
    unfold bv8_gather_91
    repeat' first
      | with_reducible exact h
      | with_reducible apply ih
      | with_reducible apply hkv37
      | with_reducible refine fn_pk (by decide) ?_
      | with_reducible refine fn_ps (by decide) ?_
      | with_reducible refine fn_pR ?_
      | with_reducible refine fn_pJ ?_
      | split
      | dsimp only
theorem fn_v8_gather_37 {q : PM}  : ∀ (n : Nat) {p : PM} (c0 : Nat) (c1 : Int32) (c2 : Int32) (c3 : Int32) (c4 : Int32), FN q p → FN q (v8_gather_37 n p c0 c1 c2 c3 c4).2 := by
  intro n
  induction n with
  | zero =>
    intro p c0 c1 c2 c3 c4 h
    exact h
  | succ n ih =>
    intro p c0 c1 c2 c3 c4 h
    rw [ev8_gather_37]
    unfold bv8_gather_37
    repeat' first
      | with_reducible exact h
      | with_reducible apply ih
      | with_reducible refine fn_pk (by decide) ?_
      | with_reducible refine fn_ps (by decide) ?_
      | with_reducible refine fn_pR ?_
      | with_reducible refine fn_pJ ?_
      | with_reducible apply fn_v8_gather_91
      | split
      | dsimp only
theorem fn_v8_gather {q : PM}  {p : PM} (v1 : Nat) (v2 : Int32)  (h : FN q p) : FN q (v8_gather p v1 v2).2 := by
  unfold v8_gather bv8_gather
  repeat' first
    | with_reducible exact h
    | with_reducible refine fn_pk (by decide) ?_
    | with_reducible refine fn_ps (by decide) ?_
    | with_reducible refine fn_pR ?_
    | with_reducible refine fn_pJ ?_
    | with_reducible apply fn_v8_gather_37
    | split
    | dsimp only
theorem fn_v8_meetsOwn_5 {q : PM}  : ∀ (n : Nat) {p : PM} (c0 : Nat) (c1 : Int32) (c2 : Int32) (c3 : Int32), FN q p → FN q (v8_meetsOwn_5 n p c0 c1 c2 c3).2 := by
  intro n
  induction n with
  | zero =>
    intro p c0 c1 c2 c3 h
    exact h
  | succ n ih =>
    intro p c0 c1 c2 c3 h
    rw [ev8_meetsOwn_5]
    unfold bv8_meetsOwn_5
    repeat' first
      | with_reducible exact h
      | with_reducible apply ih
      | with_reducible refine fn_pk (by decide) ?_
      | with_reducible refine fn_ps (by decide) ?_
      | with_reducible refine fn_pR ?_
      | with_reducible refine fn_pJ ?_
      | split
      | dsimp only
theorem fn_v8_meetsOwn {q : PM}  {p : PM} (v1 : Nat) (v2 : Int32)  (h : FN q p) : FN q (v8_meetsOwn p v1 v2).2 := by
  unfold v8_meetsOwn bv8_meetsOwn
  repeat' first
    | with_reducible exact h
    | with_reducible refine fn_pk (by decide) ?_
    | with_reducible refine fn_ps (by decide) ?_
    | with_reducible refine fn_pR ?_
    | with_reducible refine fn_pJ ?_
    | with_reducible apply fn_v8_meetsOwn_5
    | split
    | dsimp only
theorem fn_v8_giveTop {q : PM}  {p : PM} (v1 : Int32) (v2 : Int32) (v3 : Int32)  (h : FN q p) : FN q (v8_giveTop p v1 v2 v3).2 := by
  unfold v8_giveTop bv8_giveTop
  repeat' first
    | with_reducible exact h
    | with_reducible refine fn_pk (by decide) ?_
    | with_reducible refine fn_ps (by decide) ?_
    | with_reducible refine fn_pR ?_
    | with_reducible refine fn_pJ ?_
    | split
    | dsimp only
theorem fn_v8_giveShares_170 {q : PM} {kv155 : PM → Int32 → Int32 → Int32 → PM} (hkv155 : ∀ {p : PM} (a1 : Int32) (a2 : Int32) (a3 : Int32), FN q p → FN q (kv155 p a1 a2 a3)) : ∀ (n : Nat) {p : PM} (c0 : Int32) (c1 : Int32) (c2 : Int32) (c3 : Int32), FN q p → FN q (v8_giveShares_170 kv155 n p c0 c1 c2 c3) := by
  intro n
  induction n with
  | zero =>
    intro p c0 c1 c2 c3 h
    exact h
  | succ n ih =>
    intro p c0 c1 c2 c3 h
    rw [ev8_giveShares_170]
    unfold bv8_giveShares_170
    repeat' first
      | with_reducible exact h
      | with_reducible apply ih
      | with_reducible apply hkv155
      | with_reducible refine fn_pk (by decide) ?_
      | with_reducible refine fn_ps (by decide) ?_
      | with_reducible refine fn_pR ?_
      | with_reducible refine fn_pJ ?_
      | split
      | dsimp only
theorem fn_v8_giveShares_155 {q : PM}  : ∀ (n : Nat) {p : PM} (c0 : Int32) (c1 : Int32) (c2 : Int32), FN q p → FN q (v8_giveShares_155 n p c0 c1 c2) := by
  intro n
  induction n with
  | zero =>
    intro p c0 c1 c2 h
    exact h
  | succ n ih =>
    intro p c0 c1 c2 h
    rw [ev8_giveShares_155]
    unfold bv8_giveShares_155
    repeat' first
      | with_reducible exact h
      | with_reducible apply ih
      | with_reducible refine fn_pk (by decide) ?_
      | with_reducible refine fn_ps (by decide) ?_
      | with_reducible refine fn_pR ?_
      | with_reducible refine fn_pJ ?_
      | with_reducible apply fn_v8_giveShares_170
      | split
      | dsimp only
theorem fn_v8_giveShares_72 {q : PM}  : ∀ (n : Nat) {p : PM} (c0 : Int32) (c1 : Int32) (c2 : Int32) (c3 : Int32) (c4 : Int32), FN q p → FN q (v8_giveShares_72 n p c0 c1 c2 c3 c4) := by
  intro n
  induction n with
  | zero =>
    intro p c0 c1 c2 c3 c4 h
    exact h
  | succ n ih =>
    intro p c0 c1 c2 c3 c4 h
    rw [ev8_giveShares_72]
    unfold bv8_giveShares_72
    repeat' first
      | with_reducible exact h
      | with_reducible apply ih
      | with_reducible refine fn_pk (by decide) ?_
      | with_reducible refine fn_ps (by decide) ?_
      | with_reducible refine fn_pR ?_
      | with_reducible refine fn_pJ ?_
      | with_reducible apply fn_v8_giveShares_155
      | split
      | dsimp only
theorem fn_v8_giveShares_5 {q : PM}  : ∀ (n : Nat) {p : PM} (c0 : Int32) (c1 : Int32) (c2 : Int32) (c3 : Int32), FN q p → FN q (v8_giveShares_5 n p c0 c1 c2 c3) := by
  intro n
  induction n with
  | zero =>
    intro p c0 c1 c2 c3 h
    exact h
  | succ n ih =>
    intro p c0 c1 c2 c3 h
    rw [ev8_giveShares_5]
    unfold bv8_giveShares_5
    repeat' first
      | with_reducible exact h
      | with_reducible apply ih
      | with_reducible refine fn_pk (by decide) ?_
      | with_reducible refine fn_ps (by decide) ?_
      | with_reducible refine fn_pR ?_
      | with_reducible refine fn_pJ ?_
      | with_reducible apply fn_v8_giveShares_72
      | split
      | dsimp only
theorem fn_v8_giveShares {q : PM}  {p : PM} (v1 : Int32) (v2 : Int32)  (h : FN q p) : FN q (v8_giveShares p v1 v2) := by
  unfold v8_giveShares bv8_giveShares
  repeat' first
    | with_reducible exact h
    | with_reducible refine fn_pk (by decide) ?_
    | with_reducible refine fn_ps (by decide) ?_
    | with_reducible refine fn_pR ?_
    | with_reducible refine fn_pJ ?_
    | with_reducible apply fn_v8_giveShares_5
    | split
    | dsimp only
theorem fn_v8_share_82 {q : PM}  : ∀ (n : Nat) {p : PM} (c0 : Int32) (c1 : Int32) (c2 : Int32), FN q p → FN q (v8_share_82 n p c0 c1 c2) := by
  intro n
  induction n with
  | zero =>
    intro p c0 c1 c2 h
    exact h
  | succ n ih =>
    intro p c0 c1 c2 h
    rw [ev8_share_82]
    unfold bv8_share_82
    repeat' first
      | with_reducible exact h
      | with_reducible apply ih
      | with_reducible refine fn_pk (by decide) ?_
      | with_reducible refine fn_ps (by decide) ?_
      | with_reducible refine fn_pR ?_
      | with_reducible refine fn_pJ ?_
      | split
      | dsimp only
theorem fn_v8_share_25 {q : PM}  : ∀ (n : Nat) {p : PM} (c0 : Nat) (c1 : Int32) (c2 : Int32) (c3 : Int32) (c4 : Int32), FN q p → FN q (v8_share_25 n p c0 c1 c2 c3 c4) := by
  intro n
  induction n with
  | zero =>
    intro p c0 c1 c2 c3 c4 h
    exact h
  | succ n ih =>
    intro p c0 c1 c2 c3 c4 h
    rw [ev8_share_25]
    unfold bv8_share_25
    repeat' first
      | with_reducible exact h
      | with_reducible apply ih
      | with_reducible refine fn_pk (by decide) ?_
      | with_reducible refine fn_ps (by decide) ?_
      | with_reducible refine fn_pR ?_
      | with_reducible refine fn_pJ ?_
      | with_reducible apply fn_v8_giveTop
      | with_reducible apply fn_v8_giveShares
      | with_reducible apply fn_v8_share_82
      | split
      | dsimp only
theorem fn_v8_share {q : PM}  {p : PM} (v1 : Nat) (v2 : Int32) (v3 : Int32)  (h : FN q p) : FN q (v8_share p v1 v2 v3) := by
  unfold v8_share bv8_share
  repeat' first
    | with_reducible exact h
    | with_reducible refine fn_pk (by decide) ?_
    | with_reducible refine fn_ps (by decide) ?_
    | with_reducible refine fn_pR ?_
    | with_reducible refine fn_pJ ?_
    | with_reducible apply fn_v8_share_25
    | split
    | dsimp only
theorem fn_v6_showAnew {q : PM}  {p : PM} (v1 : Nat)  (h : FN q p) : FN q (v6_showAnew p v1) := by
  unfold v6_showAnew bv6_showAnew
  repeat' first
    | with_reducible exact h
    | with_reducible refine fn_pk (by decide) ?_
    | with_reducible refine fn_ps (by decide) ?_
    | with_reducible refine fn_pR ?_
    | with_reducible refine fn_pJ ?_
    | with_reducible apply fn_v6_nextTurn
    | split
    | dsimp only
theorem fn_v6_guard_62 {q : PM}  : ∀ (n : Nat) {p : PM} (c0 : Nat) (c1 : Int32), FN q p → FN q (v6_guard_62 n p c0 c1) := by
  intro n
  induction n with
  | zero =>
    intro p c0 c1 h
    exact h
  | succ n ih =>
    intro p c0 c1 h
    rw [ev6_guard_62]
    unfold bv6_guard_62
    repeat' first
      | with_reducible exact h
      | with_reducible apply ih
      | with_reducible refine fn_pk (by decide) ?_
      | with_reducible refine fn_ps (by decide) ?_
      | with_reducible refine fn_pR ?_
      | with_reducible refine fn_pJ ?_
      | split
      | dsimp only
theorem fn_v6_guard {q : PM}  {p : PM} (v1 : Nat) (v2 : Int32)  (h : FN q p) : FN q (v6_guard p v1 v2) := by
  unfold v6_guard bv6_guard
  repeat' first
    | with_reducible exact h
    | with_reducible refine fn_pk (by decide) ?_
    | with_reducible refine fn_ps (by decide) ?_
    | with_reducible refine fn_pR ?_
    | with_reducible refine fn_pJ ?_
    | with_reducible apply fn_v6_guard_62
    | split
    | dsimp only
theorem fn_v0_take {q : PM}  {p : PM} (v0 : Nat) (v1 : Nat) (v2 : Int32) (v3 : Int32)  (h : FN q p) : FN q (v0_take p v0 v1 v2 v3) := by
  unfold v0_take bv0_take
  repeat' first
    | with_reducible exact h
    | with_reducible refine fn_pk (by decide) ?_
    | with_reducible refine fn_ps (by decide) ?_
    | with_reducible refine fn_pR ?_
    | with_reducible refine fn_pJ ?_
    | split
    | dsimp only
theorem fn_v4_fill {q : PM}  {p : PM} (v0 : Nat) (v1 : Nat) (v2 : Nat) (v3 : Nat) (v4 : Int32) (v5 : Int32)  (h : FN q p) : FN q (v4_fill p v0 v1 v2 v3 v4 v5) := by
  unfold v4_fill bv4_fill
  repeat' first
    | with_reducible exact h
    | with_reducible refine fn_pk (by decide) ?_
    | with_reducible refine fn_ps (by decide) ?_
    | with_reducible refine fn_pR ?_
    | with_reducible refine fn_pJ ?_
    | split
    | dsimp only
theorem fn_v7_record {q : PM}  {p : PM} (v1 : Nat) (v2 : Nat) (v3 : Nat) (v4 : Int32) (v5 : Int32)  (h : FN q p) : FN q (v7_record p v1 v2 v3 v4 v5) := by
  unfold v7_record bv7_record
  repeat' first
    | with_reducible exact h
    | with_reducible refine fn_pk (by decide) ?_
    | with_reducible refine fn_ps (by decide) ?_
    | with_reducible refine fn_pR ?_
    | with_reducible refine fn_pJ ?_
    | with_reducible apply fn_v0_take
    | with_reducible apply fn_v4_fill
    | split
    | dsimp only
theorem fn_v10_fall {q : PM}  {p : PM} (v0 : Nat) (v1 : Int32)  (h : FN q p) : FN q (v10_fall p v0 v1) := by
  unfold v10_fall bv10_fall
  repeat' first
    | with_reducible exact h
    | with_reducible refine fn_pk (by decide) ?_
    | with_reducible refine fn_ps (by decide) ?_
    | with_reducible refine fn_pR ?_
    | with_reducible refine fn_pJ ?_
    | split
    | dsimp only
theorem fn_v8_strike {q : PM}  {p : PM} (v1 : Nat) (v2 : Nat) (v3 : Int32) (v4 : Int32)  (h : FN q p) : FN q (v8_strike p v1 v2 v3 v4) := by
  unfold v8_strike bv8_strike
  repeat' first
    | with_reducible exact h
    | with_reducible refine fn_pk (by decide) ?_
    | with_reducible refine fn_ps (by decide) ?_
    | with_reducible refine fn_pR ?_
    | with_reducible refine fn_pJ ?_
    | with_reducible apply fn_v6_guard
    | with_reducible apply fn_v7_record
    | with_reducible apply fn_v10_fall
    | split
    | dsimp only
theorem fn_v8_match_141 {q : PM} {kv7 : PM → Nat → Nat → Int32 → PM} (hkv7 : ∀ {p : PM} (a1 : Nat) (a2 : Nat) (a3 : Int32), FN q p → FN q (kv7 p a1 a2 a3)) : ∀ (n : Nat) {p : PM} (c0 : Nat) (c1 : Nat) (c2 : Int32) (c3 : Int32) (c4 : Int32) (c5 : Int32), FN q p → FN q (v8_match_141 kv7 n p c0 c1 c2 c3 c4 c5) := by
  intro n
  induction n with
  | zero =>
    intro p c0 c1 c2 c3 c4 c5 h
    exact h
  | succ n ih =>
    intro p c0 c1 c2 c3 c4 c5 h
    rw [ev8_match_141]
    unfold bv8_match_141
    repeat' first
      | with_reducible exact h
      | with_reducible apply ih
      | with_reducible apply hkv7
      | with_reducible refine fn_pk (by decide) ?_
      | with_reducible refine fn_ps (by decide) ?_
      | with_reducible refine fn_pR ?_
      | with_reducible refine fn_pJ ?_
      | with_reducible apply fn_v6_showAnew
      | with_reducible apply fn_v8_strike
      | split
      | dsimp only
theorem fn_v8_match_37 {q : PM} {kv7 : PM → Nat → Nat → Int32 → PM} (hkv7 : ∀ {p : PM} (a1 : Nat) (a2 : Nat) (a3 : Int32), FN q p → FN q (kv7 p a1 a2 a3)) {p : PM} (v1 : Nat) (v2 : Nat) (v3 : Int32) (s0 : Int32) (s1 : Nat)  (h : FN q p) : FN q (v8_match_37 kv7 p v1 v2 v3 s0 s1) := by
  unfold v8_match_37 bv8_match_37
  repeat' first
    | with_reducible exact h
    | with_reducible apply hkv7
    | with_reducible refine fn_pk (by decide) ?_
    | with_reducible refine fn_ps (by decide) ?_
    | with_reducible refine fn_pR ?_
    | with_reducible refine fn_pJ ?_
    | with_reducible apply fn_v6_beginAuction
    | with_reducible apply fn_v8_settle
    | with_reducible apply fn_v8_gather
    | with_reducible apply fn_v8_meetsOwn
    | with_reducible apply fn_v8_share
    | with_reducible apply fn_v8_match_141
    | split
    | dsimp only
theorem fn_v8_match_7 {q : PM}  : ∀ (n : Nat) {p : PM} (c0 : Nat) (c1 : Nat) (c2 : Int32), FN q p → FN q (v8_match_7 n p c0 c1 c2) := by
  intro n
  induction n with
  | zero =>
    intro p c0 c1 c2 h
    exact h
  | succ n ih =>
    intro p c0 c1 c2 h
    rw [ev8_match_7]
    unfold bv8_match_7
    repeat' first
      | with_reducible exact h
      | with_reducible apply ih
      | with_reducible refine fn_pk (by decide) ?_
      | with_reducible refine fn_ps (by decide) ?_
      | with_reducible refine fn_pR ?_
      | with_reducible refine fn_pJ ?_
      | with_reducible apply fn_v8_settle
      | with_reducible apply fn_v8_match_37
      | split
      | dsimp only
theorem fn_v8_match {q : PM}  {p : PM} (v1 : Nat)  (h : FN q p) : FN q (v8_match p v1) := by
  unfold v8_match bv8_match
  repeat' first
    | with_reducible exact h
    | with_reducible refine fn_pk (by decide) ?_
    | with_reducible refine fn_ps (by decide) ?_
    | with_reducible refine fn_pR ?_
    | with_reducible refine fn_pJ ?_
    | with_reducible apply fn_v8_match_7
    | split
    | dsimp only
theorem fn_v5_place {q : PM}  {p : PM} (v1 : Nat)  (h : FN q p) : FN q (v5_place p v1) := by
  unfold v5_place bv5_place
  repeat' first
    | with_reducible exact h
    | with_reducible refine fn_pk (by decide) ?_
    | with_reducible refine fn_ps (by decide) ?_
    | with_reducible refine fn_pR ?_
    | with_reducible refine fn_pJ ?_
    | with_reducible apply fn_v6_stand
    | with_reducible apply fn_v8_match
    | split
    | dsimp only
