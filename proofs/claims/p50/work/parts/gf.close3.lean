/-! a close-out leaves the times -/
def GT (q q' : PM) : Prop := ∀ S, S = 17 ∨ S = 18 → q'.1 12 1 S = q.1 12 1 S
theorem gt_refl (q : PM) : GT q q := fun _ _ => rfl
theorem gt_12 {q p : PM} {s : Nat} {v : Int32} (hs : ¬ (s = 17 ∨ s = 18)) (h : GT q p) : GT q (pI p 12 1 s v) := by
  intro S hS
  rw [pI_1, u3_s (fun e => hs (by rw [← e]; exact hS))]
  exact h S hS
theorem gt_k {q p : PM} {k i s : Nat} {v : Int32} (hk : ¬ k = 12) (h : GT q p) : GT q (pI p k i s v) := by
  intro S hS
  rw [pI_1, u3_k (fun e => hk e.symm)]
  exact h S hS
theorem gt_pJ {q p : PM} {k i s : Nat} {v : Int64} (h : GT q p) : GT q (pJ p k i s v) := h
theorem gt_v12_doCloseOut_129 {q : PM} {kv72 : PM → Int32 → Int32 → Int64 → Int32 → Int32 → Int32 × PM} (hkv72 : ∀ {p : PM} (a1 : Int32) (a2 : Int32) (a3 : Int64) (a4 : Int32) (a5 : Int32), GT q p → GT q (kv72 p a1 a2 a3 a4 a5).2) {p : PM} (v1 : Int32) (v2 : Int32) (v3 : Int64) (v5 : Int32) (v6 : Int32)  (h : GT q p) : GT q (v12_doCloseOut_129 kv72 p v1 v2 v3 v5 v6).2 := by
  unfold v12_doCloseOut_129 bv12_doCloseOut_129
  repeat' first
    | with_reducible exact h
    | with_reducible apply hkv72
    | with_reducible refine gt_12 (by decide) ?_
    | with_reducible refine gt_k (by decide) ?_
    | with_reducible refine gt_pJ ?_
    | split
    | dsimp only
theorem gt_v12_covers {q : PM}  {p : PM} (v1 : Int32) (v2 : Int64) (v4 : Int32)  (h : GT q p) : GT q (v12_covers p v1 v2 v4) := by
  unfold v12_covers bv12_covers
  repeat' first
    | with_reducible exact h
    | with_reducible refine gt_12 (by decide) ?_
    | with_reducible refine gt_k (by decide) ?_
    | with_reducible refine gt_pJ ?_
    | split
    | dsimp only
theorem gt_v12_shares_125 {q : PM} {kv115 : PM → Int64 → Int64 → Int64 × PM} (hkv115 : ∀ {p : PM} (a1 : Int64) (a2 : Int64), GT q p → GT q (kv115 p a1 a2).2) : ∀ (n : Nat) {p : PM} (c0 : Int64) (c1 : Int64) (c2 : Int32), GT q p → GT q (v12_shares_125 kv115 n p c0 c1 c2).2 := by
  intro n
  induction n with
  | zero =>
    intro p c0 c1 c2 h
    exact h
  | succ n ih =>
    intro p c0 c1 c2 h
    rw [ev12_shares_125]
    unfold bv12_shares_125
    repeat' first
      | with_reducible exact h
      | with_reducible apply ih
      | with_reducible apply hkv115
      | with_reducible refine gt_12 (by decide) ?_
      | with_reducible refine gt_k (by decide) ?_
      | with_reducible refine gt_pJ ?_
      | split
      | dsimp only
theorem gt_v12_shares_115 {q : PM}  : ∀ (n : Nat) {p : PM} (c0 : Int64) (c1 : Int64), GT q p → GT q (v12_shares_115 n p c0 c1).2 := by
  intro n
  induction n with
  | zero =>
    intro p c0 c1 h
    exact h
  | succ n ih =>
    intro p c0 c1 h
    rw [ev12_shares_115]
    unfold bv12_shares_115
    repeat' first
      | with_reducible exact h
      | with_reducible apply ih
      | with_reducible refine gt_12 (by decide) ?_
      | with_reducible refine gt_k (by decide) ?_
      | with_reducible refine gt_pJ ?_
      | with_reducible apply gt_v12_shares_125
      | split
      | dsimp only
theorem gt_v12_shares_47 {q : PM}  : ∀ (n : Nat) {p : PM} (c0 : Int64) (c1 : Int64) (c2 : Int64) (c3 : Int64) (c4 : Int32), GT q p → GT q (v12_shares_47 n p c0 c1 c2 c3 c4).2 := by
  intro n
  induction n with
  | zero =>
    intro p c0 c1 c2 c3 c4 h
    exact h
  | succ n ih =>
    intro p c0 c1 c2 c3 c4 h
    rw [ev12_shares_47]
    unfold bv12_shares_47
    repeat' first
      | with_reducible exact h
      | with_reducible apply ih
      | with_reducible refine gt_12 (by decide) ?_
      | with_reducible refine gt_k (by decide) ?_
      | with_reducible refine gt_pJ ?_
      | with_reducible apply gt_v12_shares_115
      | split
      | dsimp only
theorem gt_v12_shares_5 {q : PM}  : ∀ (n : Nat) {p : PM} (c0 : Int64) (c1 : Int64) (c2 : Int32), GT q p → GT q (v12_shares_5 n p c0 c1 c2).2 := by
  intro n
  induction n with
  | zero =>
    intro p c0 c1 c2 h
    exact h
  | succ n ih =>
    intro p c0 c1 c2 h
    rw [ev12_shares_5]
    unfold bv12_shares_5
    repeat' first
      | with_reducible exact h
      | with_reducible apply ih
      | with_reducible refine gt_12 (by decide) ?_
      | with_reducible refine gt_k (by decide) ?_
      | with_reducible refine gt_pJ ?_
      | with_reducible apply gt_v12_shares_47
      | split
      | dsimp only
theorem gt_v12_shares {q : PM}  {p : PM} (v1 : Int64)  (h : GT q p) : GT q (v12_shares p v1).2 := by
  unfold v12_shares bv12_shares
  repeat' first
    | with_reducible exact h
    | with_reducible refine gt_12 (by decide) ?_
    | with_reducible refine gt_k (by decide) ?_
    | with_reducible refine gt_pJ ?_
    | with_reducible apply gt_v12_shares_5
    | split
    | dsimp only
theorem gt_v12_coversByFunds_103 {q : PM}  : ∀ (n : Nat) {p : PM} (c0 : Int32) (c1 : Int32) (c2 : Int64) (c3 : Int32), GT q p → GT q (v12_coversByFunds_103 n p c0 c1 c2 c3) := by
  intro n
  induction n with
  | zero =>
    intro p c0 c1 c2 c3 h
    exact h
  | succ n ih =>
    intro p c0 c1 c2 c3 h
    rw [ev12_coversByFunds_103]
    unfold bv12_coversByFunds_103
    repeat' first
      | with_reducible exact h
      | with_reducible apply ih
      | with_reducible refine gt_12 (by decide) ?_
      | with_reducible refine gt_k (by decide) ?_
      | with_reducible refine gt_pJ ?_
      | with_reducible apply gt_v12_covers
      | split
      | dsimp only
theorem gt_v12_coversByFunds_3 {q : PM}  : ∀ (n : Nat) {p : PM} (c0 : Int32) (c1 : Int32) (c2 : Int32) (c3 : Int32), GT q p → GT q (v12_coversByFunds_3 n p c0 c1 c2 c3) := by
  intro n
  induction n with
  | zero =>
    intro p c0 c1 c2 c3 h
    exact h
  | succ n ih =>
    intro p c0 c1 c2 c3 h
    rw [ev12_coversByFunds_3]
    unfold bv12_coversByFunds_3
    repeat' first
      | with_reducible exact h
      | with_reducible apply ih
      | with_reducible refine gt_12 (by decide) ?_
      | with_reducible refine gt_k (by decide) ?_
      | with_reducible refine gt_pJ ?_
      | with_reducible apply gt_v12_shares
      | with_reducible apply gt_v12_coversByFunds_103
      | split
      | dsimp only
theorem gt_v12_coversByFunds {q : PM}  {p : PM} (v1 : Int32) (v2 : Int32) (v3 : Int32)  (h : GT q p) : GT q (v12_coversByFunds p v1 v2 v3) := by
  unfold v12_coversByFunds bv12_coversByFunds
  repeat' first
    | with_reducible exact h
    | with_reducible refine gt_12 (by decide) ?_
    | with_reducible refine gt_k (by decide) ?_
    | with_reducible refine gt_pJ ?_
    | with_reducible apply gt_v12_coversByFunds_3
    | split
    | dsimp only
theorem gt_v12_coversAll_325 {q : PM}  : ∀ (n : Nat) {p : PM} (c0 : Int32) (c1 : Int64) (c2 : Int32), GT q p → GT q (v12_coversAll_325 n p c0 c1 c2) := by
  intro n
  induction n with
  | zero =>
    intro p c0 c1 c2 h
    exact h
  | succ n ih =>
    intro p c0 c1 c2 h
    rw [ev12_coversAll_325]
    unfold bv12_coversAll_325
    repeat' first
      | with_reducible exact h
      | with_reducible apply ih
      | with_reducible refine gt_12 (by decide) ?_
      | with_reducible refine gt_k (by decide) ?_
      | with_reducible refine gt_pJ ?_
      | with_reducible apply gt_v12_covers
      | split
      | dsimp only
theorem gt_v12_coversAll_272 {q : PM}  : ∀ (n : Nat) {p : PM} (c0 : Int32) (c1 : Int32), GT q p → GT q (v12_coversAll_272 n p c0 c1) := by
  intro n
  induction n with
  | zero =>
    intro p c0 c1 h
    exact h
  | succ n ih =>
    intro p c0 c1 h
    rw [ev12_coversAll_272]
    unfold bv12_coversAll_272
    repeat' first
      | with_reducible exact h
      | with_reducible apply ih
      | with_reducible refine gt_12 (by decide) ?_
      | with_reducible refine gt_k (by decide) ?_
      | with_reducible refine gt_pJ ?_
      | with_reducible apply gt_v12_shares
      | with_reducible apply gt_v12_coversAll_325
      | split
      | dsimp only
theorem gt_v12_coversAll_242 {q : PM}  {p : PM} (v1 : Int32) (v10 : Int32) (v11 : Int32) (v12 : Int32)  (h : GT q p) : GT q (v12_coversAll_242 p v1 v10 v11 v12) := by
  unfold v12_coversAll_242 bv12_coversAll_242
  repeat' first
    | with_reducible exact h
    | with_reducible refine gt_12 (by decide) ?_
    | with_reducible refine gt_k (by decide) ?_
    | with_reducible refine gt_pJ ?_
    | with_reducible apply gt_v12_coversAll_272
    | split
    | dsimp only
theorem gt_v12_coversAll_159 {q : PM}  {p : PM} (v1 : Int32) (v2 : Int32)  (h : GT q p) : GT q (v12_coversAll_159 p v1 v2) := by
  unfold v12_coversAll_159 bv12_coversAll_159
  repeat' first
    | with_reducible exact h
    | with_reducible refine gt_12 (by decide) ?_
    | with_reducible refine gt_k (by decide) ?_
    | with_reducible refine gt_pJ ?_
    | with_reducible apply gt_v12_covers
    | with_reducible apply gt_v12_coversByFunds
    | with_reducible apply gt_v12_coversAll_242
    | split
    | dsimp only
theorem gt_v12_coversAll {q : PM}  {p : PM} (v1 : Int32) (v2 : Int32)  (h : GT q p) : GT q (v12_coversAll p v1 v2) := by
  unfold v12_coversAll bv12_coversAll
  repeat' first
    | with_reducible exact h
    | with_reducible refine gt_12 (by decide) ?_
    | with_reducible refine gt_k (by decide) ?_
    | with_reducible refine gt_pJ ?_
    | with_reducible apply gt_v12_covers
    | with_reducible apply gt_v12_coversAll_159
    | split
    | dsimp only
theorem gt_v12_doCloseOut_238 {q : PM}  : ∀ (n : Nat) {p : PM} (c0 : Int32), GT q p → GT q (v12_doCloseOut_238 n p c0).2 := by
  intro n
  induction n with
  | zero =>
    intro p c0 h
    exact h
  | succ n ih =>
    intro p c0 h
    rw [ev12_doCloseOut_238]
    unfold bv12_doCloseOut_238
    repeat' first
      | with_reducible exact h
      | with_reducible apply ih
      | with_reducible refine gt_12 (by decide) ?_
      | with_reducible refine gt_k (by decide) ?_
      | with_reducible refine gt_pJ ?_
      | split
      | dsimp only
theorem gt_v12_doCloseOut_180 {q : PM}  {p : PM} (v1 : Int32) (v2 : Int32)  (h : GT q p) : GT q (v12_doCloseOut_180 p v1 v2).2 := by
  unfold v12_doCloseOut_180 bv12_doCloseOut_180
  repeat' first
    | with_reducible exact h
    | with_reducible refine gt_12 (by decide) ?_
    | with_reducible refine gt_k (by decide) ?_
    | with_reducible refine gt_pJ ?_
    | with_reducible apply gt_v12_coversAll
    | with_reducible apply gt_v12_doCloseOut_238
    | split
    | dsimp only
theorem gt_v12_doCloseOut_72 {q : PM}  : ∀ (n : Nat) {p : PM} (c0 : Int32) (c1 : Int32) (c2 : Int64) (c3 : Int32) (c4 : Int32), GT q p → GT q (v12_doCloseOut_72 n p c0 c1 c2 c3 c4).2 := by
  intro n
  induction n with
  | zero =>
    intro p c0 c1 c2 c3 c4 h
    exact h
  | succ n ih =>
    intro p c0 c1 c2 c3 c4 h
    rw [ev12_doCloseOut_72]
    unfold bv12_doCloseOut_72
    repeat' first
      | with_reducible exact h
      | with_reducible apply ih
      | with_reducible refine gt_12 (by decide) ?_
      | with_reducible refine gt_k (by decide) ?_
      | with_reducible refine gt_pJ ?_
      | with_reducible apply gt_v12_doCloseOut_129
      | with_reducible apply gt_v12_doCloseOut_180
      | split
      | dsimp only
theorem gt_v12_doCloseOut {q : PM}  {p : PM}   (h : GT q p) : GT q (v12_doCloseOut p).2 := by
  unfold v12_doCloseOut bv12_doCloseOut
  repeat' first
    | with_reducible exact h
    | with_reducible refine gt_12 (by decide) ?_
    | with_reducible refine gt_k (by decide) ?_
    | with_reducible refine gt_pJ ?_
    | with_reducible apply gt_v12_doCloseOut_72
    | split
    | dsimp only

section Close3
variable {p q : PM} {lg : Nat → Int32} {N T D e : Nat}
theorem do_close2 (hfl : ¬ lg 4006 = cn 1) (he : e + 1 ≤ 2000) (hD : D ≤ 1000000) (H : WW p q (lgB lg e) 99 99 (fun _ => False) N T D 6 (fun _ => 0)) (hS : SB q e) : (g12_doCloseOut q ∧ DoE (lgB lg (e + 1)) q N T D 60 0 (kClose p) (g2_closePortfolio p) (v2_closePortfolio p) (v12_doCloseOut q)) ∧ (kClose p = 0 → SB (v12_doCloseOut q).2 (e + 1)) := by
  obtain ⟨s1, s2, ⟨t, t1, t2⟩, d, d1, d2⟩ := hS
  obtain ⟨k1, k2⟩ := do_close hfl he hD H s2
  refine ⟨k1, fun h => ?_⟩
  obtain ⟨f1, f2, -⟩ := k2 h
  have F := gt_v12_doCloseOut (q := q) (gt_refl q)
  refine ⟨fun m hm => ?_, f1, ⟨t, by omega, ?_⟩, d, by omega, ?_⟩
  · obtain ⟨⟨z, z0, x1, x2, x3, x4, x5⟩, y, y0, w1, w2, w3, w4, w5⟩ := f2 m hm
    obtain ⟨⟨u, u1, u2, u3'⟩, v, v1, v2, v3⟩ := s1 m hm
    rw [u3', cneq ⟨by omega, by omega⟩ ⟨by omega, by omega⟩] at x4
    rw [v3, cneq ⟨by omega, by omega⟩ ⟨by omega, by omega⟩] at w4
    exact ⟨⟨z, x1, by omega, x5⟩, ⟨y, w1, by omega, w5⟩⟩
  · rw [F 17 (by decide)]
    exact t2
  · rw [F 18 (by decide)]
    exact d2
end Close3
