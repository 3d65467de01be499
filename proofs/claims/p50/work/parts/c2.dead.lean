/-! who is gone stays gone, in the class -/
def FL (q q' : PM) : Prop := ∀ i, q.1 10 i 2 = 0 → q'.1 10 i 2 = 0
theorem fl_refl (q : PM) : FL q q := fun _ h => h
theorem fl_pk {q p : PM} {k i s : Nat} {v : Int32} (hk : ¬ k = 10) (h : FL q p) : FL q (pI p k i s v) := by
  intro j hj
  rw [pI_1, u3_k (fun e => hk e.symm)]
  exact h j hj
theorem fl_ps {q p : PM} {k i s : Nat} {v : Int32} (hs : ¬ s = 2) (h : FL q p) : FL q (pI p k i s v) := by
  intro j hj
  rw [pI_1, u3_s (fun e => hs e.symm)]
  exact h j hj
theorem fl_p0 {q p : PM} {i : Nat} (h : FL q p) : FL q (pI p 10 i 2 (cn 0)) := by
  intro j hj
  rw [pI_1]
  by_cases e : j = i
  · rw [e, u3_same]
    rfl
  · rw [u3_i e]
    exact h j hj
theorem fl_pJ {q p : PM} {k i s : Nat} {v : Int64} (h : FL q p) : FL q (pJ p k i s v) := h
theorem fl_pR {q p : PM} {k i s r : Nat} (h : FL q p) : FL q (pR p k i s r) := h
theorem fl_up {q p : PM} {i : Nat} {v : Int32} (hn : ¬ p.1 10 i 2 = 0) (h : FL q p) : FL q (pI p 10 i 2 v) := by
  intro j hj
  rw [pI_1]
  by_cases e : j = i
  · rw [e] at hj
    exact absurd (h i hj) hn
  · rw [u3_i e]
    exact h j hj
theorem fl_v6_nextTurn {q : PM}  {p : PM}   (h : FL q p) : FL q (v6_nextTurn p).2 := by
  unfold v6_nextTurn bv6_nextTurn
  repeat' first
    | with_reducible exact h
    | with_reducible refine fl_pk (by decide) ?_
    | with_reducible refine fl_ps (by decide) ?_
    | with_reducible refine fl_p0 ?_
    | with_reducible refine fl_pR ?_
    | with_reducible refine fl_pJ ?_
    | split
    | dsimp only
theorem fl_v6_stand {q p : PM} (v1 : Nat) (hn : ¬ p.1 10 v1 2 = 0) (h : FL q p) : FL q (v6_stand p v1) := by
  unfold v6_stand bv6_stand
  exact fl_ps (by decide) (fl_v6_nextTurn (fl_ps (by decide) (fl_ps (by decide) (fl_up hn h))))
theorem fl_v8_settle {q p : PM} (v1 : Nat) (h : FL q p) : FL q (v8_settle p v1) := by
  unfold v8_settle bv8_settle
  by_cases e : p.1 10 v1 2 = 0
  · rw [if_pos e]
    exact h
  · rw [if_neg e]
    repeat' first
      | with_reducible exact h
      | with_reducible refine fl_p0 ?_
      | exact fl_v6_stand v1 e h
      | split
      | dsimp only
theorem fl_v6_beginAuction {q : PM}  {p : PM} (v1 : Nat) (v2 : Int32) (v3 : Int32)  (h : FL q p) : FL q (v6_beginAuction p v1 v2 v3).2 := by
  unfold v6_beginAuction bv6_beginAuction
  repeat' first
    | with_reducible exact h
    | with_reducible refine fl_pk (by decide) ?_
    | with_reducible refine fl_ps (by decide) ?_
    | with_reducible refine fl_p0 ?_
    | with_reducible refine fl_pR ?_
    | with_reducible refine fl_pJ ?_
    | split
    | dsimp only
theorem fl_v8_gather_91 {q : PM} {kv37 : PM → Nat → Int32 → Int32 → Int32 → Int32 → Int32 × PM} (hkv37 : ∀ {p : PM} (a1 : Nat) (a2 : Int32) (a3 : Int32) (a4 : Int32) (a5 : Int32), FL q p → FL q (kv37 p a1 a2 a3 a4 a5).2) : ∀ (n : Nat) {p : PM} (c0 : Nat) (c1 : Int32) (c2 : Int32) (c3 : Int32) (c4 : Int32) (c5 : Nat) (c6 : Int32), FL q p → FL q (v8_gather_91 kv37 n p c0 c1 c2 c3 c4 c5 c6).2 := by
  intro n
  induction n with
  | zero =>
    intro p c0 c1 c2 c3 c4 c5 c6 h
    exact h
  | succ n ih =>
    intro p c0 c1 c2 c3 c4 c5 c6 h
    rw [ev8_gather_91]
    unfold bv8_gather_91
    repeat' first
      | with_reducible exact h
      | with_reducible apply ih
      | with_reducible apply hkv37
      | with_reducible refine fl_pk (by decide) ?_
      | with_reducible refine fl_ps (by decide) ?_
      | with_reducible refine fl_p0 ?_
      | with_reducible refine fl_pR ?_
      | with_reducible refine fl_pJ ?_
      | split
      | dsimp only
theorem fl_v8_gather_37 {q : PM}  : ∀ (n : Nat) {p : PM} (c0 : Nat) (c1 : Int32) (c2 : Int32) (c3 : Int32) (c4 : Int32), FL q p → FL q (v8_gather_37 n p c0 c1 c2 c3 c4).2 := by
  intro n
  induction n with
  | zero =>
    intro p c0 c1 c2 c3 c4 h
    exact h
  | succ n ih =>
    intro p c0 c1 c2 c3 c4 h
    rw [ev8_gather_37]
    unfold bv8_gather_37
    repeat' first
      | with_reducible exact h
      | with_reducible apply ih
      | with_reducible refine fl_pk (by decide) ?_
      | with_reducible refine fl_ps (by decide) ?_
      | with_reducible refine fl_p0 ?_
      | with_reducible refine fl_pR ?_
      | with_reducible refine fl_pJ ?_
      | with_reducible apply fl_v8_gather_91
      | split
      | dsimp only
theorem fl_v8_gather {q : PM}  {p : PM} (v1 : Nat) (v2 : Int32)  (h : FL q p) : FL q (v8_gather p v1 v2).2 := by
  unfold v8_gather bv8_gather
  repeat' first
    | with_reducible exact h
    | with_reducible refine fl_pk (by decide) ?_
    | with_reducible refine fl_ps (by decide) ?_
    | with_reducible refine fl_p0 ?_
    | with_reducible refine fl_pR ?_
    | with_reducible refine fl_pJ ?_
    | with_reducible apply fl_v8_gather_37
    | split
    | dsimp only
theorem fl_v8_meetsOwn_5 {q : PM}  : ∀ (n : Nat) {p : PM} (c0 : Nat) (c1 : Int32) (c2 : Int32) (c3 : Int32), FL q p → FL q (v8_meetsOwn_5 n p c0 c1 c2 c3).2 := by
  intro n
  induction n with
  | zero =>
    intro p c0 c1 c2 c3 h
    exact h
  | succ n ih =>
    intro p c0 c1 c2 c3 h
    rw [ev8_meetsOwn_5]
    unfold bv8_meetsOwn_5
    repeat' first
      | with_reducible exact h
      | with_reducible apply ih
      | with_reducible refine fl_pk (by decide) ?_
      | with_reducible refine fl_ps (by decide) ?_
      | with_reducible refine fl_p0 ?_
      | with_reducible refine fl_pR ?_
      | with_reducible refine fl_pJ ?_
      | split
      | dsimp only
theorem fl_v8_meetsOwn {q : PM}  {p : PM} (v1 : Nat) (v2 : Int32)  (h : FL q p) : FL q (v8_meetsOwn p v1 v2).2 := by
  unfold v8_meetsOwn bv8_meetsOwn
  repeat' first
    | with_reducible exact h
    | with_reducible refine fl_pk (by decide) ?_
    | with_reducible refine fl_ps (by decide) ?_
    | with_reducible refine fl_p0 ?_
    | with_reducible refine fl_pR ?_
    | with_reducible refine fl_pJ ?_
    | with_reducible apply fl_v8_meetsOwn_5
    | split
    | dsimp only
theorem fl_v8_giveTop {q : PM}  {p : PM} (v1 : Int32) (v2 : Int32) (v3 : Int32)  (h : FL q p) : FL q (v8_giveTop p v1 v2 v3).2 := by
  unfold v8_giveTop bv8_giveTop
  repeat' first
    | with_reducible exact h
    | with_reducible refine fl_pk (by decide) ?_
    | with_reducible refine fl_ps (by decide) ?_
    | with_reducible refine fl_p0 ?_
    | with_reducible refine fl_pR ?_
    | with_reducible refine fl_pJ ?_
    | split
    | dsimp only
theorem fl_v8_giveShares_170 {q : PM} {kv155 : PM → Int32 → Int32 → Int32 → PM} (hkv155 : ∀ {p : PM} (a1 : Int32) (a2 : Int32) (a3 : Int32), FL q p → FL q (kv155 p a1 a2 a3)) : ∀ (n : Nat) {p : PM} (c0 : Int32) (c1 : Int32) (c2 : Int32) (c3 : Int32), FL q p → FL q (v8_giveShares_170 kv155 n p c0 c1 c2 c3) := by
  intro n
  induction n with
  | zero =>
    intro p c0 c1 c2 c3 h
    exact h
  | succ n ih =>
    intro p c0 c1 c2 c3 h
    rw [ev8_giveShares_170]
    unfold bv8_giveShares_170
    repeat' first
      | with_reducible exact h
      | with_reducible apply ih
      | with_reducible apply hkv155
      | with_reducible refine fl_pk (by decide) ?_
      | with_reducible refine fl_ps (by decide) ?_
      | with_reducible refine fl_p0 ?_
      | with_reducible refine fl_pR ?_
      | with_reducible refine fl_pJ ?_
      | split
      | dsimp only
theorem fl_v8_giveShares_155 {q : PM}  : ∀ (n : Nat) {p : PM} (c0 : Int32) (c1 : Int32) (c2 : Int32), FL q p → FL q (v8_giveShares_155 n p c0 c1 c2) := by
  intro n
  induction n with
  | zero =>
    intro p c0 c1 c2 h
    exact h
  | succ n ih =>
    intro p c0 c1 c2 h
    rw [ev8_giveShares_155]
    unfold bv8_giveShares_155
    repeat' first
      | with_reducible exact h
      | with_reducible apply ih
      | with_reducible refine fl_pk (by decide) ?_
      | with_reducible refine fl_ps (by decide) ?_
      | with_reducible refine fl_p0 ?_
      | with_reducible refine fl_pR ?_
      | with_reducible refine fl_pJ ?_
      | with_reducible apply fl_v8_giveShares_170
      | split
      | dsimp only
theorem fl_v8_giveShares_72 {q : PM}  : ∀ (n : Nat) {p : PM} (c0 : Int32) (c1 : Int32) (c2 : Int32) (c3 : Int32) (c4 : Int32), FL q p → FL q (v8_giveShares_72 n p c0 c1 c2 c3 c4) := by
  intro n
  induction n with
  | zero =>
    intro p c0 c1 c2 c3 c4 h
    exact h
  | succ n ih =>
    intro p c0 c1 c2 c3 c4 h
    rw [ev8_giveShares_72]
    unfold bv8_giveShares_72
    repeat' first
      | with_reducible exact h
      | with_reducible apply ih
      | with_reducible refine fl_pk (by decide) ?_
      | with_reducible refine fl_ps (by decide) ?_
      | with_reducible refine fl_p0 ?_
      | with_reducible refine fl_pR ?_
      | with_reducible refine fl_pJ ?_
      | with_reducible apply fl_v8_giveShares_155
      | split
      | dsimp only
theorem fl_v8_giveShares_5 {q : PM}  : ∀ (n : Nat) {p : PM} (c0 : Int32) (c1 : Int32) (c2 : Int32) (c3 : Int32), FL q p → FL q (v8_giveShares_5 n p c0 c1 c2 c3) := by
  intro n
  induction n with
  | zero =>
    intro p c0 c1 c2 c3 h
    exact h
  | succ n ih =>
    intro p c0 c1 c2 c3 h
    rw [ev8_giveShares_5]
    unfold bv8_giveShares_5
    repeat' first
      | with_reducible exact h
      | with_reducible apply ih
      | with_reducible refine fl_pk (by decide) ?_
      | with_reducible refine fl_ps (by decide) ?_
      | with_reducible refine fl_p0 ?_
      | with_reducible refine fl_pR ?_
      | with_reducible refine fl_pJ ?_
      | with_reducible apply fl_v8_giveShares_72
      | split
      | dsimp only
theorem fl_v8_giveShares {q : PM}  {p : PM} (v1 : Int32) (v2 : Int32)  (h : FL q p) : FL q (v8_giveShares p v1 v2) := by
  unfold v8_giveShares bv8_giveShares
  repeat' first
    | with_reducible exact h
    | with_reducible refine fl_pk (by decide) ?_
    | with_reducible refine fl_ps (by decide) ?_
    | with_reducible refine fl_p0 ?_
    | with_reducible refine fl_pR ?_
    | with_reducible refine fl_pJ ?_
    | with_reducible apply fl_v8_giveShares_5
    | split
    | dsimp only
theorem fl_v8_share_82 {q : PM}  : ∀ (n : Nat) {p : PM} (c0 : Int32) (c1 : Int32) (c2 : Int32), FL q p → FL q (v8_share_82 n p c0 c1 c2) := by
  intro n
  induction n with
  | zero =>
    intro p c0 c1 c2 h
    exact h
  | succ n ih =>
    intro p c0 c1 c2 h
    rw [ev8_share_82]
    unfold bv8_share_82
    repeat' first
      | with_reducible exact h
      | with_reducible apply ih
      | with_reducible refine fl_pk (by decide) ?_
      | with_reducible refine fl_ps (by decide) ?_
      | with_reducible refine fl_p0 ?_
      | with_reducible refine fl_pR ?_
      | with_reducible refine fl_pJ ?_
      | split
      | dsimp only
theorem fl_v8_share_25 {q : PM}  : ∀ (n : Nat) {p : PM} (c0 : Nat) (c1 : Int32) (c2 : Int32) (c3 : Int32) (c4 : Int32), FL q p → FL q (v8_share_25 n p c0 c1 c2 c3 c4) := by
  intro n
  induction n with
  | zero =>
    intro p c0 c1 c2 c3 c4 h
    exact h
  | succ n ih =>
    intro p c0 c1 c2 c3 c4 h
    rw [ev8_share_25]
    unfold bv8_share_25
    repeat' first
      | with_reducible exact h
      | with_reducible apply ih
      | with_reducible refine fl_pk (by decide) ?_
      | with_reducible refine fl_ps (by decide) ?_
      | with_reducible refine fl_p0 ?_
      | with_reducible refine fl_pR ?_
      | with_reducible refine fl_pJ ?_
      | with_reducible apply fl_v8_giveTop
      | with_reducible apply fl_v8_giveShares
      | with_reducible apply fl_v8_share_82
      | split
      | dsimp only
theorem fl_v8_share {q : PM}  {p : PM} (v1 : Nat) (v2 : Int32) (v3 : Int32)  (h : FL q p) : FL q (v8_share p v1 v2 v3) := by
  unfold v8_share bv8_share
  repeat' first
    | with_reducible exact h
    | with_reducible refine fl_pk (by decide) ?_
    | with_reducible refine fl_ps (by decide) ?_
    | with_reducible refine fl_p0 ?_
    | with_reducible refine fl_pR ?_
    | with_reducible refine fl_pJ ?_
    | with_reducible apply fl_v8_share_25
    | split
    | dsimp only
theorem fl_v6_showAnew {q : PM}  {p : PM} (v1 : Nat)  (h : FL q p) : FL q (v6_showAnew p v1) := by
  unfold v6_showAnew bv6_showAnew
  repeat' first
    | with_reducible exact h
    | with_reducible refine fl_pk (by decide) ?_
    | with_reducible refine fl_ps (by decide) ?_
    | with_reducible refine fl_p0 ?_
    | with_reducible refine fl_pR ?_
    | with_reducible refine fl_pJ ?_
    | with_reducible apply fl_v6_nextTurn
    | split
    | dsimp only
theorem fl_v6_guard_62 {q : PM}  : ∀ (n : Nat) {p : PM} (c0 : Nat) (c1 : Int32), FL q p → FL q (v6_guard_62 n p c0 c1) := by
  intro n
  induction n with
  | zero =>
    intro p c0 c1 h
    exact h
  | succ n ih =>
    intro p c0 c1 h
    rw [ev6_guard_62]
    unfold bv6_guard_62
    repeat' first
      | with_reducible exact h
      | with_reducible apply ih
      | with_reducible refine fl_pk (by decide) ?_
      | with_reducible refine fl_ps (by decide) ?_
      | with_reducible refine fl_p0 ?_
      | with_reducible refine fl_pR ?_
      | with_reducible refine fl_pJ ?_
      | split
      | dsimp only
theorem fl_v6_guard {q : PM}  {p : PM} (v1 : Nat) (v2 : Int32)  (h : FL q p) : FL q (v6_guard p v1 v2) := by
  unfold v6_guard bv6_guard
  repeat' first
    | with_reducible exact h
    | with_reducible refine fl_pk (by decide) ?_
    | with_reducible refine fl_ps (by decide) ?_
    | with_reducible refine fl_p0 ?_
    | with_reducible refine fl_pR ?_
    | with_reducible refine fl_pJ ?_
    | with_reducible apply fl_v6_guard_62
    | split
    | dsimp only
theorem fl_v0_take {q : PM}  {p : PM} (v0 : Nat) (v1 : Nat) (v2 : Int32) (v3 : Int32)  (h : FL q p) : FL q (v0_take p v0 v1 v2 v3) := by
  unfold v0_take bv0_take
  repeat' first
    | with_reducible exact h
    | with_reducible refine fl_pk (by decide) ?_
    | with_reducible refine fl_ps (by decide) ?_
    | with_reducible refine fl_p0 ?_
    | with_reducible refine fl_pR ?_
    | with_reducible refine fl_pJ ?_
    | split
    | dsimp only
theorem fl_v4_fill {q : PM}  {p : PM} (v0 : Nat) (v1 : Nat) (v2 : Nat) (v3 : Nat) (v4 : Int32) (v5 : Int32)  (h : FL q p) : FL q (v4_fill p v0 v1 v2 v3 v4 v5) := by
  unfold v4_fill bv4_fill
  repeat' first
    | with_reducible exact h
    | with_reducible refine fl_pk (by decide) ?_
    | with_reducible refine fl_ps (by decide) ?_
    | with_reducible refine fl_p0 ?_
    | with_reducible refine fl_pR ?_
    | with_reducible refine fl_pJ ?_
    | split
    | dsimp only
theorem fl_v7_record {q : PM}  {p : PM} (v1 : Nat) (v2 : Nat) (v3 : Nat) (v4 : Int32) (v5 : Int32)  (h : FL q p) : FL q (v7_record p v1 v2 v3 v4 v5) := by
  unfold v7_record bv7_record
  repeat' first
    | with_reducible exact h
    | with_reducible refine fl_pk (by decide) ?_
    | with_reducible refine fl_ps (by decide) ?_
    | with_reducible refine fl_p0 ?_
    | with_reducible refine fl_pR ?_
    | with_reducible refine fl_pJ ?_
    | with_reducible apply fl_v0_take
    | with_reducible apply fl_v4_fill
    | split
    | dsimp only
theorem fl_v10_fall {q : PM}  {p : PM} (v0 : Nat) (v1 : Int32)  (h : FL q p) : FL q (v10_fall p v0 v1) := by
  unfold v10_fall bv10_fall
  repeat' first
    | with_reducible exact h
    | with_reducible refine fl_pk (by decide) ?_
    | with_reducible refine fl_ps (by decide) ?_
    | with_reducible refine fl_p0 ?_
    | with_reducible refine fl_pR ?_
    | with_reducible refine fl_pJ ?_
    | split
    | dsimp only
theorem fl_v8_strike {q : PM}  {p : PM} (v1 : Nat) (v2 : Nat) (v3 : Int32) (v4 : Int32)  (h : FL q p) : FL q (v8_strike p v1 v2 v3 v4) := by
  unfold v8_strike bv8_strike
  repeat' first
    | with_reducible exact h
    | with_reducible refine fl_pk (by decide) ?_
    | with_reducible refine fl_ps (by decide) ?_
    | with_reducible refine fl_p0 ?_
    | with_reducible refine fl_pR ?_
    | with_reducible refine fl_pJ ?_
    | with_reducible apply fl_v6_guard
    | with_reducible apply fl_v7_record
    | with_reducible apply fl_v10_fall
    | split
    | dsimp only
theorem fl_v8_match_141 {q : PM} {kv7 : PM → Nat → Nat → Int32 → PM} (hkv7 : ∀ {p : PM} (a1 : Nat) (a2 : Nat) (a3 : Int32), FL q p → FL q (kv7 p a1 a2 a3)) : ∀ (n : Nat) {p : PM} (c0 : Nat) (c1 : Nat) (c2 : Int32) (c3 : Int32) (c4 : Int32) (c5 : Int32), FL q p → FL q (v8_match_141 kv7 n p c0 c1 c2 c3 c4 c5) := by
  intro n
  induction n with
  | zero =>
    intro p c0 c1 c2 c3 c4 c5 h
    exact h
  | succ n ih =>
    intro p c0 c1 c2 c3 c4 c5 h
    rw [ev8_match_141]
    unfold bv8_match_141
    repeat' first
      | with_reducible exact h
      | with_reducible apply ih
      | with_reducible apply hkv7
      | with_reducible refine fl_pk (by decide) ?_
      | with_reducible refine fl_ps (by decide) ?_
      | with_reducible refine fl_p0 ?_
      | with_reducible refine fl_pR ?_
      | with_reducible refine fl_pJ ?_
      | with_reducible apply fl_v6_showAnew
      | with_reducible apply fl_v8_strike
      | split
      | dsimp only
theorem fl_v8_match_37 {q : PM} {kv7 : PM → Nat → Nat → Int32 → PM} (hkv7 : ∀ {p : PM} (a1 : Nat) (a2 : Nat) (a3 : Int32), FL q p → FL q (kv7 p a1 a2 a3)) {p : PM} (v1 : Nat) (v2 : Nat) (v3 : Int32) (s0 : Int32) (s1 : Nat)  (h : FL q p) : FL q (v8_match_37 kv7 p v1 v2 v3 s0 s1) := by
  unfold v8_match_37 bv8_match_37
  repeat' first
    | with_reducible exact h
    | with_reducible apply hkv7
    | with_reducible refine fl_pk (by decide) ?_
    | with_reducible refine fl_ps (by decide) ?_
    | with_reducible refine fl_p0 ?_
    | with_reducible refine fl_pR ?_
    | with_reducible refine fl_pJ ?_
    | with_reducible apply fl_v6_beginAuction
    | with_reducible apply fl_v8_settle
    | with_reducible apply fl_v8_gather
    | with_reducible apply fl_v8_meetsOwn
    | with_reducible apply fl_v8_share
    | with_reducible apply fl_v8_match_141
    | split
    | dsimp only
theorem fl_v8_match_7 {q : PM}  : ∀ (n : Nat) {p : PM} (c0 : Nat) (c1 : Nat) (c2 : Int32), FL q p → FL q (v8_match_7 n p c0 c1 c2) := by
  intro n
  induction n with
  | zero =>
    intro p c0 c1 c2 h
    exact h
  | succ n ih =>
    intro p c0 c1 c2 h
    rw [ev8_match_7]
    unfold bv8_match_7
    repeat' first
      | with_reducible exact h
      | with_reducible apply ih
      | with_reducible refine fl_pk (by decide) ?_
      | with_reducible refine fl_ps (by decide) ?_
      | with_reducible refine fl_p0 ?_
      | with_reducible refine fl_pR ?_
      | with_reducible refine fl_pJ ?_
      | with_reducible apply fl_v8_settle
      | with_reducible apply fl_v8_match_37
      | split
      | dsimp only
theorem fl_v8_match {q : PM}  {p : PM} (v1 : Nat)  (h : FL q p) : FL q (v8_match p v1) := by
  unfold v8_match bv8_match
  repeat' first
    | with_reducible exact h
    | with_reducible refine fl_pk (by decide) ?_
    | with_reducible refine fl_ps (by decide) ?_
    | with_reducible refine fl_p0 ?_
    | with_reducible refine fl_pR ?_
    | with_reducible refine fl_pJ ?_
    | with_reducible apply fl_v8_match_7
    | split
    | dsimp only
