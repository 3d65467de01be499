/-! where the law begins -/
def RQ34 (q p : PM) : Prop := p.1 13 34 = q.1 13 34
theorem r34_pI {q p : PM} {k i s : Nat} {v : Int32} (hk : ¬ (k = 13 ∧ i = 34)) (h : RQ34 q p) : RQ34 q (pI p k i s v) := by
  unfold RQ34 at h ⊢
  rw [← h]
  funext S
  rw [pI_1]
  exact u3_ne fun e => hk ⟨e.1.symm, e.2.1.symm⟩
theorem r34_pJ {q p : PM} {k i s : Nat} {v : Int64} (h : RQ34 q p) : RQ34 q (pJ p k i s v) := h
theorem r34_v12_resets_230 {q : PM}  : ∀ (n : Nat) {p : PM} (c0 : Int32), RQ34 q p → RQ34 q (v12_resets_230 n p c0) := by
  intro n
  induction n with
  | zero =>
    intro p c0 h
    exact h
  | succ n ih =>
    intro p c0 h
    rw [ev12_resets_230]
    unfold bv12_resets_230
    repeat' first
      | with_reducible exact h
      | with_reducible apply ih
      | with_reducible refine r34_pI (by decide) ?_
      | with_reducible refine r34_pJ ?_
      | split
      | dsimp only
theorem r34_v12_resets_209 {q : PM}  : ∀ (n : Nat) {p : PM} (c0 : Int32), RQ34 q p → RQ34 q (v12_resets_209 n p c0) := by
  intro n
  induction n with
  | zero =>
    intro p c0 h
    exact h
  | succ n ih =>
    intro p c0 h
    rw [ev12_resets_209]
    unfold bv12_resets_209
    repeat' first
      | with_reducible exact h
      | with_reducible apply ih
      | with_reducible refine r34_pI (by decide) ?_
      | with_reducible refine r34_pJ ?_
      | with_reducible apply r34_v12_resets_230
      | split
      | dsimp only
theorem r34_v12_resets_188 {q : PM}  : ∀ (n : Nat) {p : PM} (c0 : Int32), RQ34 q p → RQ34 q (v12_resets_188 n p c0) := by
  intro n
  induction n with
  | zero =>
    intro p c0 h
    exact h
  | succ n ih =>
    intro p c0 h
    rw [ev12_resets_188]
    unfold bv12_resets_188
    repeat' first
      | with_reducible exact h
      | with_reducible apply ih
      | with_reducible refine r34_pI (by decide) ?_
      | with_reducible refine r34_pJ ?_
      | with_reducible apply r34_v12_resets_209
      | split
      | dsimp only
theorem r34_v12_resets_109 {q : PM}  : ∀ (n : Nat) {p : PM} (c0 : Int32), RQ34 q p → RQ34 q (v12_resets_109 n p c0) := by
  intro n
  induction n with
  | zero =>
    intro p c0 h
    exact h
  | succ n ih =>
    intro p c0 h
    rw [ev12_resets_109]
    unfold bv12_resets_109
    repeat' first
      | with_reducible exact h
      | with_reducible apply ih
      | with_reducible refine r34_pI (by decide) ?_
      | with_reducible refine r34_pJ ?_
      | with_reducible apply r34_v12_resets_188
      | split
      | dsimp only
theorem r34_v12_resets_67 {q : PM}  : ∀ (n : Nat) {p : PM} (c0 : Int32), RQ34 q p → RQ34 q (v12_resets_67 n p c0) := by
  intro n
  induction n with
  | zero =>
    intro p c0 h
    exact h
  | succ n ih =>
    intro p c0 h
    rw [ev12_resets_67]
    unfold bv12_resets_67
    repeat' first
      | with_reducible exact h
      | with_reducible apply ih
      | with_reducible refine r34_pI (by decide) ?_
      | with_reducible refine r34_pJ ?_
      | with_reducible apply r34_v12_resets_109
      | split
      | dsimp only
theorem r34_v12_resets_44 {q : PM}  : ∀ (n : Nat) {p : PM} (c0 : Int32), RQ34 q p → RQ34 q (v12_resets_44 n p c0) := by
  intro n
  induction n with
  | zero =>
    intro p c0 h
    exact h
  | succ n ih =>
    intro p c0 h
    rw [ev12_resets_44]
    unfold bv12_resets_44
    repeat' first
      | with_reducible exact h
      | with_reducible apply ih
      | with_reducible refine r34_pI (by decide) ?_
      | with_reducible refine r34_pJ ?_
      | with_reducible apply r34_v12_resets_67
      | split
      | dsimp only
theorem r34_v12_resets_23 {q : PM}  : ∀ (n : Nat) {p : PM} (c0 : Int32), RQ34 q p → RQ34 q (v12_resets_23 n p c0) := by
  intro n
  induction n with
  | zero =>
    intro p c0 h
    exact h
  | succ n ih =>
    intro p c0 h
    rw [ev12_resets_23]
    unfold bv12_resets_23
    repeat' first
      | with_reducible exact h
      | with_reducible apply ih
      | with_reducible refine r34_pI (by decide) ?_
      | with_reducible refine r34_pJ ?_
      | with_reducible apply r34_v12_resets_44
      | split
      | dsimp only
theorem r34_v12_resets_2 {q : PM}  : ∀ (n : Nat) {p : PM} (c0 : Int32), RQ34 q p → RQ34 q (v12_resets_2 n p c0) := by
  intro n
  induction n with
  | zero =>
    intro p c0 h
    exact h
  | succ n ih =>
    intro p c0 h
    rw [ev12_resets_2]
    unfold bv12_resets_2
    repeat' first
      | with_reducible exact h
      | with_reducible apply ih
      | with_reducible refine r34_pI (by decide) ?_
      | with_reducible refine r34_pJ ?_
      | with_reducible apply r34_v12_resets_23
      | split
      | dsimp only
theorem r34_v12_resets {q : PM}  {p : PM}   (h : RQ34 q p) : RQ34 q (v12_resets p) := by
  unfold v12_resets bv12_resets z0Q
  repeat' first
    | with_reducible exact h
    | with_reducible refine r34_pI (by decide) ?_
    | with_reducible refine r34_pJ ?_
    | with_reducible apply r34_v12_resets_2
    | split
    | dsimp only
theorem sFu_z {f : Nat → Int32} {c : Nat} (hc : c < 4) : ∀ n : Nat, n ≤ 9 → (∀ k, k < 36 → f k = cn 0) → sFu f c n = 0
  | 0, _, _ => rfl
  | n + 1, h, hz => by
    show sFu f c n + f (4 * n + c) = 0
    rw [sFu_z hc n (by omega) hz, hz (4 * n + c) (by omega)]
    rfl
theorem li_start : LI (v12_resets Zp) 0 0 := by
  obtain ⟨Q, hQ, gQ, qR, qJ, q1, q2, q3, q6, q15, q35, q36, ⟨q50, q57, q58, q17, q18, q39, q40', q48⟩, qlog, q8, q12, qB, qL⟩ := rq_all Zp
  have hP : PrL (v12_resets Zp) (fun _ => 116) := pl_start (M := fun _ => 116) (fun _ => Int.le_refl _)
  have h34 : (v12_resets Zp).1 13 34 = Zp.1 13 34 := r34_v12_resets (q := Zp) (p := Zp) rfl
  rw [hQ] at hP h34 ⊢
  have z0 : (cn 0).toInt = 0 := rfl
  have z0l : (cl 0).toInt = 0 := rfl
  have hT : ∀ c, c < 4 → psF (Q.1 13 1) c 8 = 0 := fun c hc => by
    have h := psF_z (f := Q.1 13 1) (c := c) hc 8 (by decide) q1
    exact h
  have hE : ∀ G : Nat → Nat, EE Q G = 0 := fun G => by
    unfold EE
    rw [qB, z0, Int.zero_mul]
  obtain ⟨G, hG⟩ : ∃ G : Nat → Nat, ∀ i, G i = if 8 ≤ i ∧ i < 12 then 1 else 0 := ⟨_, fun _ => rfl⟩
  have hg0 : ∀ i, ¬ (8 ≤ i ∧ i < 12) → G i = 0 := fun i h => by rw [hG, if_neg h]
  have hg1 : ∀ i, 8 ≤ i → i < 12 → G i = 1 := fun i h h2 => by rw [hG, if_pos ⟨h, h2⟩]
  have hGo : ∀ m, m < 4 → ¬ Gone Q m := fun m hm h => by
    have h1 := h.1
    rw [(q36 m hm).2.2.2.1] at h1
    exact absurd h1 (by decide)
  have hgn : ∀ m, m < 4 → gn Q m = 0 := fun m hm => if_neg (hGo m hm)
  have hp0 : PW 0 = 1 := rfl
  refine ⟨fun c hc => sFu_z (by omega) 9 (by decide) q1, ?_, G, fun _ => 116, fun _ => Int.le_refl _, ⟨hP, fun _ _ => ⟨Int.le_refl _, by show (116 : Int) ≤ 9999; decide⟩, rfl⟩, ⟨by rw [qB]; decide, by rw [qB, qL]; decide, ?_⟩, ⟨fun c hc => ?_, ?_⟩, fun m c hm hc _ => ?_, fun _ c hc => ?_, fun r hr => ?_, ⟨fun s c hs hc => ?_, ?_⟩, fun m hm _ => ?_, ⟨fun m hm h => absurd h (hGo m hm), fun m hm _ => ?_, ?_, ?_⟩, ?_⟩
  · have c0 : (cn 0).toInt64 = cl 0 := rfl
    have c2 : (cn 200).toInt64 = cl 200 := rfl
    have c5 : (cn 500).toInt64 = cl 500 := rfl
    unfold ToQ MoQ
    rw [q58]
    show 0 + Q.2.1 14 1 0 + Q.2.1 14 1 1 + Q.2.1 14 1 2 + Q.2.1 14 1 3 + Q.2.1 14 1 4 + Q.2.1 14 1 5 + Q.2.1 14 1 6 + Q.2.1 14 1 7 + Q.2.1 14 1 8 + ((0 + (Q.1 13 36 0).toInt64 + (Q.1 13 36 1).toInt64 + (Q.1 13 36 2).toInt64 + (Q.1 13 36 3).toInt64) + (0 + (Q.1 13 38 0).toInt64 + (Q.1 13 38 1).toInt64 + (Q.1 13 38 2).toInt64 + (Q.1 13 38 3).toInt64) + (cn 500).toInt64) = cl 1300 + 0
    rw [qJ 0 (by decide), qJ 1 (by decide), qJ 2 (by decide), qJ 3 (by decide), qJ 4 (by decide), qJ 5 (by decide), qJ 6 (by decide), qJ 7 (by decide), qJ 8 (by decide), (q36 0 (by decide)).1, (q36 1 (by decide)).1, (q36 2 (by decide)).1, (q36 3 (by decide)).1, (q36 0 (by decide)).2.2.1, (q36 1 (by decide)).2.2.1, (q36 2 (by decide)).2.2.1, (q36 3 (by decide)).2.2.1]
    decide
  · rw [qL, hg0 3 (by decide)]
    decide
  · rw [hE, hT c (by omega), hg0 c (by omega), hp0]
    unfold S3
    dsimp only
    decide
  · rw [hE, hT 3 (by decide)]
    decide
  · have e1 : qs Q m c = 0 := by
      unfold qs
      rw [q1 (8 * m + c) (by omega), q1 (8 * m + 4 + c) (by omega)]
      rfl
    rw [hE, e1, hg1 (8 + m) (by omega) (by omega)]
    unfold S4
    dsimp only
    decide
  · have e1 : hh Q c = 0 := by
      unfold hh
      rw [q1 (32 + c) (by omega)]
      rfl
    rw [e1, hg0 c (by omega), hp0]
    unfold S5
    dsimp only
    decide
  · rw [h34, qB]
    show (0 : Int32).toInt ≤ (cn 0).toInt
    decide
  · have e1 : mvI Q s c = 0 := by
      unfold mvI
      rw [q35 (4 * s + c) (by omega)]
      rfl
    rw [e1]
    exact ⟨by decide, by decide, fun _ => rfl⟩
  · rw [hg0 12 (by decide), hg0 13 (by decide), hg0 14 (by decide), hg0 15 (by decide)]
    omega
  · rw [hE, qJ (2 * m) (by omega), qJ (2 * m + 1) (by omega)]
    decide
  · rw [hg1 (8 + m) (by omega) (by omega)]
    exact Nat.le_refl _
  · rw [hg1 8 (by decide) (by decide), hg1 9 (by decide) (by decide), hg1 10 (by decide) (by decide), hg1 11 (by decide) (by decide), hg0 7 (by decide)]
    decide
  · rw [hgn 0 (by decide), hgn 1 (by decide), hgn 2 (by decide), hgn 3 (by decide), hg0 6 (by decide), hg0 7 (by decide)]
  · have e1 : opn Q = 0 := if_pos q57
    rw [e1, hg0 0 (by decide), hg0 1 (by decide), hg0 2 (by decide), hg0 3 (by decide), hg0 4 (by decide), hg0 5 (by decide), hg0 6 (by decide)]
    decide
