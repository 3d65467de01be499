/-! what a close-out does to positions -/
def PE (q p : PM) : Prop := p.1 13 1 = q.1 13 1
theorem pe_refl (q : PM) : PE q q := rfl
theorem pe_pI {q p : PM} {k i s : Nat} {v : Int32} (hk : ¬ (k = 13 ∧ i = 1)) (h : PE q p) : PE q (pI p k i s v) := by
  unfold PE at h ⊢
  rw [← h]
  funext S
  rw [pI_1]
  exact u3_ne fun e => hk ⟨e.1.symm, e.2.1.symm⟩
theorem pe_pJ {q p : PM} {k i s : Nat} {v : Int64} (h : PE q p) : PE q (pJ p k i s v) := h
theorem pe_v12_covers {q : PM}  {p : PM} (v1 : Int32) (v2 : Int64) (v4 : Int32)  (h : PE q p) : PE q (v12_covers p v1 v2 v4) := by
  unfold v12_covers bv12_covers
  repeat' first
    | with_reducible exact h
    | with_reducible refine pe_pI (by decide) ?_
    | with_reducible refine pe_pJ ?_
    | split
    | dsimp only
theorem pe_v12_shares_125 {q : PM} {kv115 : PM → Int64 → Int64 → Int64 × PM} (hkv115 : ∀ {p : PM} (a1 : Int64) (a2 : Int64), PE q p → PE q (kv115 p a1 a2).2) : ∀ (n : Nat) {p : PM} (c0 : Int64) (c1 : Int64) (c2 : Int32), PE q p → PE q (v12_shares_125 kv115 n p c0 c1 c2).2 := by
  intro n
  induction n with
  | zero =>
    intro p c0 c1 c2 h
    exact h
  | succ n ih =>
    intro p c0 c1 c2 h
    rw [ev12_shares_125]
    unfold bv12_shares_125
    repeat' first
      | with_reducible exact h
      | with_reducible apply ih
      | with_reducible apply hkv115
      | with_reducible refine pe_pI (by decide) ?_
      | with_reducible refine pe_pJ ?_
      | split
      | dsimp only
theorem pe_v12_shares_115 {q : PM}  : ∀ (n : Nat) {p : PM} (c0 : Int64) (c1 : Int64), PE q p → PE q (v12_shares_115 n p c0 c1).2 := by
  intro n
  induction n with
  | zero =>
    intro p c0 c1 h
    exact h
  | succ n ih =>
    intro p c0 c1 h
    rw [ev12_shares_115]
    unfold bv12_shares_115
    repeat' first
      | with_reducible exact h
      | with_reducible apply ih
      | with_reducible refine pe_pI (by decide) ?_
      | with_reducible refine pe_pJ ?_
      | with_reducible apply pe_v12_shares_125
      | split
      | dsimp only
theorem pe_v12_shares_47 {q : PM}  : ∀ (n : Nat) {p : PM} (c0 : Int64) (c1 : Int64) (c2 : Int64) (c3 : Int64) (c4 : Int32), PE q p → PE q (v12_shares_47 n p c0 c1 c2 c3 c4).2 := by
  intro n
  induction n with
  | zero =>
    intro p c0 c1 c2 c3 c4 h
    exact h
  | succ n ih =>
    intro p c0 c1 c2 c3 c4 h
    rw [ev12_shares_47]
    unfold bv12_shares_47
    repeat' first
      | with_reducible exact h
      | with_reducible apply ih
      | with_reducible refine pe_pI (by decide) ?_
      | with_reducible refine pe_pJ ?_
      | with_reducible apply pe_v12_shares_115
      | split
      | dsimp only
theorem pe_v12_shares_5 {q : PM}  : ∀ (n : Nat) {p : PM} (c0 : Int64) (c1 : Int64) (c2 : Int32), PE q p → PE q (v12_shares_5 n p c0 c1 c2).2 := by
  intro n
  induction n with
  | zero =>
    intro p c0 c1 c2 h
    exact h
  | succ n ih =>
    intro p c0 c1 c2 h
    rw [ev12_shares_5]
    unfold bv12_shares_5
    repeat' first
      | with_reducible exact h
      | with_reducible apply ih
      | with_reducible refine pe_pI (by decide) ?_
      | with_reducible refine pe_pJ ?_
      | with_reducible apply pe_v12_shares_47
      | split
      | dsimp only
theorem pe_v12_shares {q : PM}  {p : PM} (v1 : Int64)  (h : PE q p) : PE q (v12_shares p v1).2 := by
  unfold v12_shares bv12_shares
  repeat' first
    | with_reducible exact h
    | with_reducible refine pe_pI (by decide) ?_
    | with_reducible refine pe_pJ ?_
    | with_reducible apply pe_v12_shares_5
    | split
    | dsimp only
theorem pe_v12_coversByFunds_103 {q : PM}  : ∀ (n : Nat) {p : PM} (c0 : Int32) (c1 : Int32) (c2 : Int64) (c3 : Int32), PE q p → PE q (v12_coversByFunds_103 n p c0 c1 c2 c3) := by
  intro n
  induction n with
  | zero =>
    intro p c0 c1 c2 c3 h
    exact h
  | succ n ih =>
    intro p c0 c1 c2 c3 h
    rw [ev12_coversByFunds_103]
    unfold bv12_coversByFunds_103
    repeat' first
      | with_reducible exact h
      | with_reducible apply ih
      | with_reducible refine pe_pI (by decide) ?_
      | with_reducible refine pe_pJ ?_
      | with_reducible apply pe_v12_covers
      | split
      | dsimp only
theorem pe_v12_coversByFunds_3 {q : PM}  : ∀ (n : Nat) {p : PM} (c0 : Int32) (c1 : Int32) (c2 : Int32) (c3 : Int32), PE q p → PE q (v12_coversByFunds_3 n p c0 c1 c2 c3) := by
  intro n
  induction n with
  | zero =>
    intro p c0 c1 c2 c3 h
    exact h
  | succ n ih =>
    intro p c0 c1 c2 c3 h
    rw [ev12_coversByFunds_3]
    unfold bv12_coversByFunds_3
    repeat' first
      | with_reducible exact h
      | with_reducible apply ih
      | with_reducible refine pe_pI (by decide) ?_
      | with_reducible refine pe_pJ ?_
      | with_reducible apply pe_v12_shares
      | with_reducible apply pe_v12_coversByFunds_103
      | split
      | dsimp only
theorem pe_v12_coversByFunds {q : PM}  {p : PM} (v1 : Int32) (v2 : Int32) (v3 : Int32)  (h : PE q p) : PE q (v12_coversByFunds p v1 v2 v3) := by
  unfold v12_coversByFunds bv12_coversByFunds
  repeat' first
    | with_reducible exact h
    | with_reducible refine pe_pI (by decide) ?_
    | with_reducible refine pe_pJ ?_
    | with_reducible apply pe_v12_coversByFunds_3
    | split
    | dsimp only
theorem pe_v12_coversAll_325 {q : PM}  : ∀ (n : Nat) {p : PM} (c0 : Int32) (c1 : Int64) (c2 : Int32), PE q p → PE q (v12_coversAll_325 n p c0 c1 c2) := by
  intro n
  induction n with
  | zero =>
    intro p c0 c1 c2 h
    exact h
  | succ n ih =>
    intro p c0 c1 c2 h
    rw [ev12_coversAll_325]
    unfold bv12_coversAll_325
    repeat' first
      | with_reducible exact h
      | with_reducible apply ih
      | with_reducible refine pe_pI (by decide) ?_
      | with_reducible refine pe_pJ ?_
      | with_reducible apply pe_v12_covers
      | split
      | dsimp only
theorem pe_v12_coversAll_272 {q : PM}  : ∀ (n : Nat) {p : PM} (c0 : Int32) (c1 : Int32), PE q p → PE q (v12_coversAll_272 n p c0 c1) := by
  intro n
  induction n with
  | zero =>
    intro p c0 c1 h
    exact h
  | succ n ih =>
    intro p c0 c1 h
    rw [ev12_coversAll_272]
    unfold bv12_coversAll_272
    repeat' first
      | with_reducible exact h
      | with_reducible apply ih
      | with_reducible refine pe_pI (by decide) ?_
      | with_reducible refine pe_pJ ?_
      | with_reducible apply pe_v12_shares
      | with_reducible apply pe_v12_coversAll_325
      | split
      | dsimp only
theorem pe_v12_coversAll_242 {q : PM}  {p : PM} (v1 : Int32) (v10 : Int32) (v11 : Int32) (v12 : Int32)  (h : PE q p) : PE q (v12_coversAll_242 p v1 v10 v11 v12) := by
  unfold v12_coversAll_242 bv12_coversAll_242
  repeat' first
    | with_reducible exact h
    | with_reducible refine pe_pI (by decide) ?_
    | with_reducible refine pe_pJ ?_
    | with_reducible apply pe_v12_coversAll_272
    | split
    | dsimp only
theorem pe_v12_coversAll_159 {q : PM}  {p : PM} (v1 : Int32) (v2 : Int32)  (h : PE q p) : PE q (v12_coversAll_159 p v1 v2) := by
  unfold v12_coversAll_159 bv12_coversAll_159
  repeat' first
    | with_reducible exact h
    | with_reducible refine pe_pI (by decide) ?_
    | with_reducible refine pe_pJ ?_
    | with_reducible apply pe_v12_covers
    | with_reducible apply pe_v12_coversByFunds
    | with_reducible apply pe_v12_coversAll_242
    | split
    | dsimp only
theorem pe_v12_coversAll {q : PM}  {p : PM} (v1 : Int32) (v2 : Int32)  (h : PE q p) : PE q (v12_coversAll p v1 v2) := by
  unfold v12_coversAll bv12_coversAll
  repeat' first
    | with_reducible exact h
    | with_reducible refine pe_pI (by decide) ?_
    | with_reducible refine pe_pJ ?_
    | with_reducible apply pe_v12_covers
    | with_reducible apply pe_v12_coversAll_159
    | split
    | dsimp only
theorem pe_v12_doCloseOut_238 {q : PM}  : ∀ (n : Nat) {p : PM} (c0 : Int32), PE q p → PE q (v12_doCloseOut_238 n p c0).2 := by
  intro n
  induction n with
  | zero =>
    intro p c0 h
    exact h
  | succ n ih =>
    intro p c0 h
    rw [ev12_doCloseOut_238]
    unfold bv12_doCloseOut_238
    repeat' first
      | with_reducible exact h
      | with_reducible apply ih
      | with_reducible refine pe_pI (by decide) ?_
      | with_reducible refine pe_pJ ?_
      | split
      | dsimp only
theorem pe_v12_doCloseOut_180 {q : PM}  {p : PM} (v1 : Int32) (v2 : Int32)  (h : PE q p) : PE q (v12_doCloseOut_180 p v1 v2).2 := by
  unfold v12_doCloseOut_180 bv12_doCloseOut_180
  repeat' first
    | with_reducible exact h
    | with_reducible refine pe_pI (by decide) ?_
    | with_reducible refine pe_pJ ?_
    | with_reducible apply pe_v12_coversAll
    | with_reducible apply pe_v12_doCloseOut_238
    | split
    | dsimp only
section Clo
variable {p q : PM} {lg : Nat → Int32} {m t N T D e : Nat} {best : Int32} {am : Int64}
/-- positions handed over in the contracts from c on -/
def HOV (q Q : PM) (m t c : Nat) : Prop := ∀ a C, a < 9 → C < 4 → Q.1 13 1 (4 * a + C) = if c ≤ C then (if a = 2 * m ∨ a = 2 * m + 1 then cn 0 else if a = t then q.1 13 1 (4 * t + C) + (q.1 13 1 (8 * m + C) + q.1 13 1 (8 * m + 4 + C)) else q.1 13 1 (4 * a + C)) else q.1 13 1 (4 * a + C)
theorem hcQ_p {x : Int32} {c : Nat} {a C : Nat} (hc : c < 4) (ha : a < 9) (hC : C < 4) (hm : m < 4) (h1 : ¬ t = 2 * m) (h2 : ¬ t = 2 * m + 1) : (hcQ q m t c x).1 13 1 (4 * a + C) = if C = c then (if a = 2 * m ∨ a = 2 * m + 1 then cn 0 else if a = t then q.1 13 1 (4 * t + c) + x else q.1 13 1 (4 * a + C)) else q.1 13 1 (4 * a + C) := by
  unfold hcQ
  by_cases e1 : 4 * a + C = 8 * m + 4 + c
  · rw [e1, pI_at, if_pos (show C = c by omega), if_pos (show a = 2 * m ∨ a = 2 * m + 1 by omega)]
  · rw [pI_1, u3_s e1]
    by_cases e2 : 4 * a + C = 8 * m + c
    · rw [e2, pI_at, if_pos (show C = c by omega), if_pos (show a = 2 * m ∨ a = 2 * m + 1 by omega)]
    · rw [pI_1, u3_s e2]
      by_cases e3 : 4 * a + C = 4 * t + c
      · rw [e3, pI_at, if_pos (show C = c by omega), if_neg (show ¬ (a = 2 * m ∨ a = 2 * m + 1) by omega), if_pos (show a = t by omega)]
      · rw [pI_1, u3_s e3]
        by_cases e4 : C = c
        · rw [if_pos e4, if_neg (show ¬ (a = 2 * m ∨ a = 2 * m + 1) by omega), if_neg (show ¬ a = t by omega)]
        · rw [if_neg e4]
theorem clo72 (hm : m < 4) (ht : t < 9) (h1 : ¬ t = 2 * m) (h2 : ¬ t = 2 * m + 1) : ∀ (d c n : Nat) (q : PM), c + d = 4 → d < n → ∃ q2, v12_doCloseOut_72 n q (cn m) best am (cn t) (cn c) = v12_doCloseOut_180 (hcQ2 q2 m t am) (cn m) best ∧ HOV q q2 m t c := by
  intro d
  induction d with
  | zero =>
    intro c n q e1 e3
    obtain ⟨n2, rfl⟩ : ∃ z9, n = z9 + 1 := ⟨n - 1, by omega⟩
    have e : c = 4 := by omega
    subst e
    have hn := lpf (i := 4) (N := 4) (by omega) (by omega) (by omega)
    refine ⟨q, ?_, fun a C ha hC => by rw [if_neg (show ¬ 4 ≤ C by omega)]⟩
    rw [ev12_doCloseOut_72]
    unfold bv12_doCloseOut_72 hcQ2
    simp only [if_neg hn, two_m, cnsucc, cntk (i := t) (by omega), cntk (i := 2 * m) (by omega), cntk (i := 2 * m + 1) (by omega)]
  | succ d ih =>
    intro c n q e1 e3
    obtain ⟨n2, rfl⟩ : ∃ z9, n = z9 + 1 := ⟨n - 1, by omega⟩
    have l4 : cn (c : Int) < cn 4 := lpt (by omega) (by omega)
    obtain ⟨-, en⟩ := net_q (q := q) hm (c := c) (by omega)
    obtain ⟨x, hx⟩ : ∃ x, x = q.1 13 1 (8 * m + c) + q.1 13 1 (8 * m + 4 + c) := ⟨_, rfl⟩
    have ex : (v12_net q (cn m) (cn c)).toInt32 = x := by rw [en, net32, hx]
    obtain ⟨q2, k3, k6⟩ := ih (c + 1) n2 (hcQ q m t c x) (by omega) (by omega)
    have a1 : cn 4 * cn (t : Int) + cn (c : Int) = cn ((4 * t + c : Nat) : Int) := by
      rw [cnmul, cnadd]
      exact congrArg cn (by omega)
    have a2 : cn 8 * cn (m : Int) + cn (c : Int) = cn ((8 * m + c : Nat) : Int) := by
      rw [cnmul, cnadd]
      exact congrArg cn (by omega)
    have a3 : cn 8 * cn (m : Int) + cn 4 + cn (c : Int) = cn ((8 * m + 4 + c : Nat) : Int) := by
      rw [cnmul, cnadd, cnadd]
      exact congrArg cn (by omega)
    refine ⟨q2, ?_, fun a C ha hC => ?_⟩
    · rw [ev12_doCloseOut_72]
      unfold bv12_doCloseOut_72
      unfold v12_doCloseOut_129 bv12_doCloseOut_129
      simp only [if_pos l4, a1, a2, a3, cntk (i := 4 * t + c) (by omega), cntk (i := 8 * m + c) (by omega), cntk (i := 8 * m + 4 + c) (by omega), ex, cnsucc]
      exact k3
    · have h := k6 a C ha hC
      have hcl : c < 4 := by omega
      by_cases g : c + 1 ≤ C
      · have gn : ¬ C = c := by omega
        have z1 := hcQ_p (q := q) (x := x) hcl ht hC hm h1 h2
        have z2 := hcQ_p (q := q) (x := x) (a := 2 * m) hcl (by omega) hC hm h1 h2
        have z3 := hcQ_p (q := q) (x := x) (a := 2 * m + 1) hcl (by omega) hC hm h1 h2
        have z4 := hcQ_p (q := q) (x := x) hcl ha hC hm h1 h2
        rw [if_neg gn] at z1 z2 z3 z4
        rw [show 4 * (2 * m) + C = 8 * m + C by omega] at z2
        rw [show 4 * (2 * m + 1) + C = 8 * m + 4 + C by omega] at z3
        rw [if_pos g, z1, z2, z3, z4] at h
        rw [if_pos (show c ≤ C by omega)]
        exact h
      · rw [if_neg g, hcQ_p hcl ha hC hm h1 h2] at h
        rw [h]
        by_cases g2 : C = c
        · subst g2
          rw [if_pos rfl, if_pos (Nat.le_refl _), hx]
        · rw [if_neg g2, if_neg (show ¬ c ≤ C by omega)]
/-- what a close-out does to positions -/
theorem clo_pos (H : WW p q (lgB lg e) 99 99 (fun _ => False) N T D 6 (fun _ => 0)) (hFI : FI q) (hk : kClose p = 0) : ∃ m t : Nat, m < 4 ∧ t < 9 ∧ ¬ t = 2 * m ∧ ¬ t = 2 * m + 1 ∧ q.1 12 1 57 = cn m ∧ ((t = 8 ∧ ∀ k, k < 4 → q.1 15 10 k = cn 0) ∨ ∃ j : Nat, j < 4 ∧ t = 2 * j ∧ ¬ j = m ∧ q.1 15 10 j = cn 1) ∧ HOV q (v12_doCloseOut q).2 m t 0 := by
  have hT := H.2.2.2.2.2.1
  rcases hT.2.2.2.2.1 with ⟨x1, x2⟩ | ⟨m, hm, x1, x2⟩
  · unfold kClose at hk
    rw [if_pos x1] at hk
    exact absurd hk (by decide)
  · have hn : ¬ cn (m : Int) < (0 : Int32) := cnge (by omega)
    have W0 := ww_th (cn 0) H
    generalize hQ0 : pI q 12 1 0 (cn 0) = Q0 at W0
    have r0 : Q0.1 12 1 0 = 0 := by rw [← hQ0]; exact t_1
    have r13 : Q0.1 13 = q.1 13 := by rw [← hQ0]; exact th_k (by decide)
    have r15 : Q0.1 15 = q.1 15 := by rw [← hQ0]; exact th_k (by decide)
    have r57 : Q0.1 12 1 57 = cn m := by
      rw [← hQ0, th_1 (by decide)]
      exact x2
    have hM : MeR p Q0 := by
      intro k hk
      obtain ⟨-, -, -, b4, b5, b6⟩ := W0.2.2.2.2.2.1.1 k hk
      exact ⟨b4.1, b5.1, b5.2, b6⟩
    obtain ⟨hW, -, -⟩ := win_eq hM
    have z00 : cn ((0 : Nat) : Int) = cn 0 := rfl
    have fin : ∀ (t : Nat) (best : Int32) (am : Int64), t < 9 → ¬ t = 2 * m → ¬ t = 2 * m + 1 → v12_doCloseOut q = v12_doCloseOut_72 FU Q0 (cn m) best am (cn t) (cn 0) → HOV q (v12_doCloseOut q).2 m t 0 := by
      intro t best am ht t1 t2 hE
      obtain ⟨F, hF, hF2⟩ : ∃ F, FU = F ∧ 100 < F := ⟨FU, rfl, by decide⟩
      obtain ⟨q2, k1, k2⟩ := clo72 (best := best) (am := am) hm ht t1 t2 4 0 F Q0 rfl (by omega)
      rw [z00] at k1
      rw [hE, hF, k1]
      have hp : (v12_doCloseOut_180 (hcQ2 q2 m t am) (cn m) best).2.1 13 1 = q2.1 13 1 := pe_v12_doCloseOut_180 (q := q2) (p := hcQ2 q2 m t am) _ _ rfl
      intro a C ha hC
      rw [hp, ← r13]
      exact k2 a C ha hC
    rcases hW with ⟨w1, w2, w3⟩ | ⟨j, hj, w1, w2, w3⟩
    · have b1' : cn (-1) < (0 : Int32) := by decide
      refine ⟨m, 8, hm, by decide, by omega, by omega, x2, Or.inl ⟨rfl, fun k hk => by rw [← r15]; exact w3 k hk⟩, fin 8 (v12_winner Q0) (v12_worth Q0 (cn m)) (by decide) (by omega) (by omega) ?_⟩
      unfold v12_doCloseOut bv12_doCloseOut
      simp only [x2, if_neg hn, hQ0, if_pos r0, r57, w2, if_pos b1']
      rfl
    · have hjn : ¬ cn (j : Int) < (0 : Int32) := cnge (by omega)
      have h9 : q.1 15 9 m = cn 1 := hFI.2.1 m hm x2
      have w3' : q.1 15 10 j = cn 1 := by rw [← r15]; exact w3
      have hjm : ¬ j = m := by
        intro h
        have h3 := hFI.1 j hj w3'
        rw [h, h9] at h3
        exact absurd h3 (by decide)
      obtain ⟨z, z1, z2, z3, z4⟩ := (hM j hj).2.2.2 w3
      refine ⟨m, 2 * j, hm, by omega, by omega, by omega, x2, Or.inr ⟨j, hj, rfl, hjm, w3'⟩, fin (2 * j) (v12_winner Q0) (cl z) (by omega) (by omega) (by omega) ?_⟩
      unfold v12_doCloseOut bv12_doCloseOut
      simp only [x2, if_neg hn, hQ0, if_pos r0, r57, w2, if_neg hjn, two_m, cntk (i := j) (by omega), z4, cn64 (a := z) ⟨by omega, by omega⟩]
end Clo
