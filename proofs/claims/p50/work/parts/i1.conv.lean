/-! what a conversion does -/
/-- the price then -/
def cvP (z n d : Int) : Int := if (z * d).tdiv n < 1 then 1 else if 9999 < (z * d).tdiv n then 9999 else (z * d).tdiv n
theorem fdiv_b {A d : Int} (d1 : 1 ≤ d) (d2 : d ≤ 9) (h1 : -((d - 1) * 9999) ≤ A) (h2 : A ≤ (d - 1) * 9999) : -9999 ≤ A / d ∧ A / d ≤ 9999 := by
  have h : d = 1 ∨ d = 2 ∨ d = 3 ∨ d = 4 ∨ d = 5 ∨ d = 6 ∨ d = 7 ∨ d = 8 ∨ d = 9 := by omega
  rcases h with rfl | rfl | rfl | rfl | rfl | rfl | rfl | rfl | rfl <;> omega
section Cnv
variable {p q : PM} {lg : Nat → Int32} {N T D e c : Nat}
theorem has_self (h : c < 4) : ¬ v12_hasContract q (cn c) (cn c) = 0 := by
  have c0 := con0 q (b := c) (by omega)
  unfold v12_hasContract bv12_hasContract
  rw [c0, if_pos h, if_pos rfl]
  decide
theorem has_p (v w : Int32) : v12_hasContract p v w = v12_hasContract q v w := rfl
theorem cp_y {z n d : Int} (z1 : 1 ≤ z) (z2 : z ≤ 9999) (n1 : 1 ≤ n) (n2 : n ≤ 9) (d1 : 1 ≤ d) (d2 : d ≤ 9) : v12_converted q (cn z) (cn n) (cn d) = cn (cvP z n d) ∧ 1 ≤ cvP z n d ∧ cvP z n d ≤ 9999 := by
  have b1 := mul_bd (n := z) (m := d) (A := 9999) (B := 9) (by omega) (by omega) (by omega) (by omega)
  have b2 : 0 ≤ z * d := Int.mul_nonneg (by omega) (by omega)
  obtain ⟨t1, -⟩ := td_rng (A := z * d) (B := n) (by omega)
  obtain ⟨t2, t3⟩ := t1 b2
  have e1 : cn z * cn d / cn n = cn ((z * d).tdiv n) := by rw [cnmul, cndiv ⟨by omega, by omega⟩ (by omega) (by omega)]
  unfold cvP
  obtain ⟨x, hx⟩ : ∃ x, (z * d).tdiv n = x := ⟨_, rfl⟩
  rw [hx] at e1 t2 t3 ⊢
  have c1 : (cn x < cn 1) = (x < 1) := cnlt ⟨by omega, by omega⟩ (by decide)
  have c2 : (cn 9999 < cn x) = (9999 < x) := cnlt (by decide) ⟨by omega, by omega⟩
  refine ⟨?_, ?_, ?_⟩
  · unfold v12_converted bv12_converted
    simp only [e1, c1, c2]
    split
    · rfl
    · split <;> rfl
  · split
    · omega
    · split <;> omega
  · split
    · omega
    · split <;> omega
/-- trades are forgotten -/
theorem z_178 {v2 v3 x : Int32} : ∀ (d i n : Nat) (q : PM), i + d = 60 → d < n → ∃ Q, v12_doConvert_178 n q (cn c) v2 v3 x (cn i) = v12_doConvert_178 1 Q (cn c) v2 v3 x (cn 60) ∧ (∀ K, ¬ K = 15 → Q.1 K = q.1 K) ∧ (∀ K, ¬ K = 8 → Q.1 15 K = q.1 15 K) ∧ Q.2 = q.2 ∧ (∀ k, k < i → Q.1 15 8 k = q.1 15 8 k) ∧ ∀ k, i ≤ k → k < 60 → Q.1 15 8 k = cn 0 → q.1 15 8 k = cn 0 ∧ v12_hasContract q (q.1 13 30 k) (cn c) = 0 := by
  intro d
  induction d with
  | zero =>
    intro i n q h1 h3
    obtain ⟨n2, rfl⟩ : ∃ m, n = m + 1 := ⟨n - 1, by omega⟩
    have e : i = 60 := by omega
    subst e
    have hn := lpf (i := 60) (N := 60) (by omega) (by omega) (by omega)
    have E : v12_doConvert_178 (n2 + 1) q (cn c) v2 v3 x (cn (60 : Nat)) = v12_doConvert_178 (0 + 1) q (cn c) v2 v3 x (cn 60) := by
      rw [ev12_doConvert_178, ev12_doConvert_178]
      unfold bv12_doConvert_178
      rw [if_neg hn, if_neg (show ¬ cn 60 < cn 60 by decide)]
    exact ⟨q, E, fun _ _ => rfl, fun _ _ => rfl, rfl, fun _ _ => rfl, fun k h1 h2 => absurd h2 (by omega)⟩
  | succ d ih =>
    intro i n q h1 h3
    obtain ⟨n2, rfl⟩ : ∃ m, n = m + 1 := ⟨n - 1, by omega⟩
    have l60 : cn (i : Int) < cn 60 := lpt (by omega) (by omega)
    have step : ∀ w : Int32, (w = cn 0 → q.1 15 8 i = cn 0 ∧ v12_hasContract q (q.1 13 30 i) (cn c) = 0) → v12_doConvert_178 (n2 + 1) q (cn c) v2 v3 x (cn i) = v12_doConvert_178 n2 (pI q 15 8 i w) (cn c) v2 v3 x (cn ((i + 1 : Nat) : Int)) → ∃ Q, v12_doConvert_178 (n2 + 1) q (cn c) v2 v3 x (cn i) = v12_doConvert_178 1 Q (cn c) v2 v3 x (cn 60) ∧ (∀ K, ¬ K = 15 → Q.1 K = q.1 K) ∧ (∀ K, ¬ K = 8 → Q.1 15 K = q.1 15 K) ∧ Q.2 = q.2 ∧ (∀ k, k < i → Q.1 15 8 k = q.1 15 8 k) ∧ ∀ k, i ≤ k → k < 60 → Q.1 15 8 k = cn 0 → q.1 15 8 k = cn 0 ∧ v12_hasContract q (q.1 13 30 k) (cn c) = 0 := by
      intro w hw hR
      obtain ⟨Q, k1, k2, k3, k4, k5, k6⟩ := ih (i + 1) n2 (pI q 15 8 i w) (by omega) (by omega)
      refine ⟨Q, hR.trans k1, fun K h => (k2 K h).trans ?_, fun K h => (k3 K h).trans ?_, k4, fun k hk => ?_, fun k hk1 hk2 h0 => ?_⟩
      · funext j S
        rw [pI_1, u3_k h]
      · funext j
        rw [pI_1, u3_i h]
      · rw [k5 k (by omega), pI_1, u3_s (by omega)]
      · by_cases ek : k = i
        · subst ek
          rw [k5 k (by omega), pI_at] at h0
          exact hw h0
        · have h := k6 k (by omega) hk2 h0
          rw [pI_1, u3_s ek, u3_k (by decide), has_p (p := pI q 15 8 i w) (q := q)] at h
          exact h
    by_cases g8 : q.1 15 8 i = 0
    · by_cases c2 : v12_hasContract q (q.1 13 30 i) (cn c) = 0
      · refine step (cn 0) (fun _ => ⟨g8, c2⟩) ?_
        rw [ev12_doConvert_178]
        unfold bv12_doConvert_178
        simp only [if_pos l60, cntk (i := i) (by omega), if_pos g8, if_pos c2, cnsucc]
      · refine step (cn 1) (fun h => absurd h (by decide)) ?_
        rw [ev12_doConvert_178]
        unfold bv12_doConvert_178
        simp only [if_pos l60, cntk (i := i) (by omega), if_pos g8, if_neg c2, cnsucc]
    · refine step (cn 1) (fun h => absurd h (by decide)) ?_
      rw [ev12_doConvert_178]
      unfold bv12_doConvert_178
      simp only [if_pos l60, cntk (i := i) (by omega), if_neg g8, cnsucc]
/-- positions and cash -/
theorem z_267 (hc : c < 3) {n d z : Int} {x : Int32} (n1 : 1 ≤ n) (n2 : n ≤ 9) (d1 : 1 ≤ d) (d2 : d ≤ 9) (z1 : 1 ≤ z) (z2 : z ≤ 9999) : ∀ (dd i m : Nat) (q : PM) (S : Int), i + dd = 8 → dd < m → q.1 13 10 c = cn z → (∀ a, i ≤ a → a < 8 → -1000000 ≤ cvY q c n d a ∧ cvY q c n d a ≤ 1000000) → ∃ Q, v12_doConvert_267 m q (cn c) (cn n) (cn d) x (cl S) (cn i) = (x, Q) ∧ (∀ K, ¬ K = 13 → Q.1 K = q.1 K) ∧ (∀ K, ¬ K = 1 → Q.1 13 K = q.1 13 K) ∧ (∀ a C, C < 4 → ¬ C = c → Q.1 13 1 (4 * a + C) = q.1 13 1 (4 * a + C)) ∧ (∀ a, a < 8 → Q.1 13 1 (4 * a + c) = if i ≤ a then cn (cvY q c n d a) else q.1 13 1 (4 * a + c)) ∧ ∀ a, a < 8 → ab (Q.2.1 14 1 a).toInt ≤ ab (q.2.1 14 1 a).toInt + (if i ≤ a then 9999 else 0) := by
  intro dd
  induction dd with
  | zero =>
    intro i m q S h1 h3 hz hok
    obtain ⟨m2, rfl⟩ : ∃ z9, m = z9 + 1 := ⟨m - 1, by omega⟩
    have e : i = 8 := by omega
    subst e
    have hn := lpf (i := 8) (N := 8) (by omega) (by omega) (by omega)
    have i32 : cn 32 + cn (c : Int) = cn ((4 * 8 + c : Nat) : Int) := by
      rw [cnadd]
      exact congrArg cn (by omega)
    refine ⟨pI q 13 1 (4 * 8 + c) (-cl S).toInt32, ?_, fun K h => ?_, fun K h => ?_, fun a C h h' => ?_, fun a ha => ?_, fun a ha => ?_⟩
    · rw [ev12_doConvert_267]
      unfold bv12_doConvert_267
      simp only [if_neg hn, i32, cntk (i := 4 * 8 + c) (by omega)]
    · funext j s
      rw [pI_1, u3_k h]
    · funext s
      rw [pI_1, u3_i h]
    · rw [pI_1, u3_s (by omega)]
    · rw [pI_1, u3_s (by omega), if_neg (by omega)]
    · rw [if_neg (by omega), pI_J]
      omega
  | succ dd ih =>
    intro i m q S h1 h3 hz hok
    obtain ⟨m2, rfl⟩ : ∃ z9, m = z9 + 1 := ⟨m - 1, by omega⟩
    have l8 : cn (i : Int) < cn 8 := lpt (by omega) (by omega)
    obtain ⟨-, e1, e2, e3, e4, e5, e6⟩ := sc_e (p := q) (v := q.1 13 1 (4 * i + c)) n1 n2 d1 d2
    have eY : ((q.1 13 1 (4 * i + c)).toInt * n).tdiv d = cvY q c n d i := rfl
    obtain ⟨t1, t2, t3, -, -⟩ := tm_rng (A := (q.1 13 1 (4 * i + c)).toInt * n) (B := d) (by omega)
    rw [eY] at e2 t1
    obtain ⟨y1, y2⟩ := hok i (Nat.le_refl _) (by omega)
    obtain ⟨Y, hY⟩ : ∃ Y, cvY q c n d i = Y := ⟨_, rfl⟩
    rw [hY] at e2 t1 y1 y2
    obtain ⟨X, hX⟩ : ∃ X, (q.1 13 1 (4 * i + c)).toInt * n = X := ⟨_, rfl⟩
    rw [hX] at e1 e2 t1 t2 t3 e5 e6
    have e2' := e2
    rw [e3] at e2'
    have eR : cl X - cl Y * cl d = cl (X.tmod d) := by
      rw [clmul, clsub, Int.mul_comm]
      exact congrArg cl (by omega)
    have bR := mul_bd (n := X.tmod d) (m := z) (A := d - 1) (B := 9999) (by omega) (by omega) (by omega) (by omega)
    have bR9 : (d - 1) * 9999 ≤ 79992 := by omega
    have eM : cl (X.tmod d) * (cn z).toInt64 = cl (X.tmod d * z) := by rw [cn64 ⟨by omega, by omega⟩, clmul]
    obtain ⟨fl1, fl2⟩ := fl_e q (A := X.tmod d * z) (B := d) ⟨by omega, by omega⟩ (by omega) (by omega)
    have bF := fdiv_b d1 d2 bR.1 bR.2
    obtain ⟨f, hf⟩ : ∃ f, X.tmod d * z / d = f := ⟨_, rfl⟩
    rw [hf] at fl2 bF
    have eY32 : (cl Y).toInt32 = cn Y := cl32 Y
    obtain ⟨Q5, hQ5⟩ : ∃ Q, pI q 13 1 (4 * i + c) (cn Y) = Q := ⟨_, rfl⟩
    obtain ⟨Q6, hQ6⟩ : ∃ Q, pJ Q5 14 1 i (Q5.2.1 14 1 i + cl f) = Q := ⟨_, rfl⟩
    obtain ⟨Q7, hQ7⟩ : ∃ Q, pJ Q6 14 1 8 (Q6.2.1 14 1 8 - cl f) = Q := ⟨_, rfl⟩
    have Q71 : Q7.1 = Q5.1 := by rw [← hQ7, pJ_1, ← hQ6, pJ_1]
    have w1 : ∀ a, ¬ a = i → Q7.1 13 1 (4 * a + c) = q.1 13 1 (4 * a + c) := fun a h => by rw [Q71, ← hQ5, pI_1, u3_s (by omega)]
    have w2 : Q7.1 13 1 (4 * i + c) = cn Y := by rw [Q71, ← hQ5, pI_at]
    have w3 : ∀ a, ¬ a = i → cvY Q7 c n d a = cvY q c n d a := fun a h => by
      unfold cvY
      rw [w1 a h]
    have wJ : ∀ a, a < 8 → Q7.2.1 14 1 a = if a = i then q.2.1 14 1 i + cl f else q.2.1 14 1 a := fun a ha => by
      rw [← hQ7, pJ_J, u3_s (by omega), ← hQ6, pJ_J]
      by_cases h : a = i
      · rw [if_pos h, h, u3_same, ← hQ5, pI_J]
      · rw [if_neg h, u3_s h, ← hQ5, pI_J]
    obtain ⟨Q, k1, k2, k3, k4, k5, k6⟩ := ih (i + 1) m2 Q7 (S + Y) (by omega) (by omega) (by rw [Q71, ← hQ5, pI_1, u3_i (by decide)]; exact hz) (fun a h1 h2 => by rw [w3 a (by omega)]; exact hok a (by omega) h2)
    refine ⟨Q, ?_, fun K h => (k2 K h).trans ?_, fun K h => (k3 K h).trans ?_, fun a C h h' => (k4 a C h h').trans ?_, fun a ha => (k5 a ha).trans ?_, fun a ha => ?_⟩
    · rw [ev12_doConvert_267]
      unfold bv12_doConvert_267
      simp only [if_pos l8, idx4, cntk (i := 4 * i + c) (by omega), cntk (i := c) (by omega), cntk (i := i) (by omega), e1, e2', e3, eR, hz, eM, fl2, eY32, hQ5, hQ6, hQ7, cladd, cnsucc]
      exact k1
    · rw [Q71, ← hQ5]
      funext j s
      rw [pI_1, u3_k h]
    · rw [Q71, ← hQ5]
      funext s
      rw [pI_1, u3_i h]
    · rw [Q71, ← hQ5, pI_1, u3_s (by omega)]
    · by_cases h : a = i
      · rw [h, if_neg (by omega), if_pos (Nat.le_refl _), w2, hY]
      · rw [w3 a h, w1 a h]
        by_cases h2 : i + 1 ≤ a
        · rw [if_pos h2, if_pos (by omega)]
        · rw [if_neg h2, if_neg (by omega)]
    · have h := k6 a ha
      rw [wJ a ha] at h
      by_cases h2 : a = i
      · rw [if_pos h2, if_neg (by omega)] at h
        have h4 := i64_add_abs (q.2.1 14 1 i) (cl f)
        rw [cl_I (a := f) ⟨by omega, by omega⟩] at h4
        rw [h2, if_pos (Nat.le_refl _)]
        rw [h2] at h
        unfold ab at h ⊢
        omega
      · rw [if_neg h2] at h
        by_cases h3 : i + 1 ≤ a
        · rw [if_pos h3] at h
          rw [if_pos (by omega)]
          exact h
        · rw [if_neg h3] at h
          rw [if_neg (by omega)]
          exact h
/-- a conversion -/
theorem conv_e {n d : Int} (hc : c < 3) (n1 : 1 ≤ n) (n2 : n ≤ 9) (d1 : 1 ≤ d) (d2 : d ≤ 9) (H : WW p q (lgB lg e) 99 99 (fun _ => False) N T D 6 (fun _ => 0)) (hk : kConv p (cn c) (cn n) (cn d) = 0) : ∃ (Q : PM) (zl zr : Int), (v12_doConvert q (cn c) (cn n) (cn d)).2 = Q ∧ (∀ K, ¬ K = 1 → ¬ K = 10 → ¬ K = 11 → Q.1 13 K = q.1 13 K) ∧ (∀ S, ¬ S = 0 → Q.1 12 1 S = q.1 12 1 S) ∧ (∀ K, ¬ K = 3 → ¬ K = 8 → Q.1 15 K = q.1 15 K) ∧ (∀ C, ¬ C = c → Q.1 13 10 C = q.1 13 10 C ∧ Q.1 13 11 C = q.1 13 11 C) ∧ (q.1 13 10 c = cn zl ∧ 1 ≤ zl ∧ zl ≤ 9999 ∧ Q.1 13 10 c = cn (cvP zl n d)) ∧ (q.1 13 11 c = cn zr ∧ 1 ≤ zr ∧ zr ≤ 9999 ∧ Q.1 13 11 c = cn (cvP zr n d)) ∧ (∀ a C, C < 4 → ¬ C = c → Q.1 13 1 (4 * a + C) = q.1 13 1 (4 * a + C)) ∧ (∀ a, a < 8 → Q.1 13 1 (4 * a + c) = cn (cvY q c n d a) ∧ -1000000 ≤ cvY q c n d a ∧ cvY q c n d a ≤ 1000000) ∧ (∀ a, a < 8 → ab (Q.2.1 14 1 a).toInt ≤ ab (q.2.1 14 1 a).toInt + 9999) ∧ ∀ k, k < 60 → Q.1 15 8 k = cn 0 → q.1 15 8 k = cn 0 ∧ v12_hasContract q (q.1 13 30 k) (cn c) = 0 := by
  obtain ⟨F, hF, hF2⟩ : ∃ F, FU = F ∧ 100 < F := ⟨FU, rfl, by decide⟩
  have z0 : cn ((0 : Nat) : Int) = cn 0 := rfl
  have hc' : ¬ isW (cn c) (cn 0) (cn 2) = 0 := by
    intro h
    unfold kConv at hk
    rw [if_pos h] at hk
    exact absurd hk (by decide)
  have hn' : ¬ isW (cn n) (cn 1) (cn 9) = 0 := by
    intro h
    unfold kConv at hk
    rw [if_neg hc', if_pos h] at hk
    exact absurd hk (by decide)
  have hd' : ¬ isW (cn d) (cn 1) (cn 9) = 0 := by
    intro h
    unfold kConv at hk
    rw [if_neg hc', if_neg hn', if_pos h] at hk
    exact absurd hk (by decide)
  have W0 := ww_th (cn 0) H
  generalize hQ0 : pI q 12 1 0 (cn 0) = Q0 at W0
  have r0 : Q0.1 12 1 0 = 0 := by rw [← hQ0]; exact t_1
  have r13 : Q0.1 13 = q.1 13 := by rw [← hQ0]; exact th_k (by decide)
  have r15 : Q0.1 15 = q.1 15 := by rw [← hQ0]; exact th_k (by decide)
  have rJ : Q0.2.1 = q.2.1 := by rw [← hQ0, pI_J]
  have r12 : ∀ S, ¬ S = 0 → Q0.1 12 1 S = q.1 12 1 S := fun S h => by rw [← hQ0, th_1 (fun e => h e.2)]
  obtain ⟨gcan, hcan⟩ := can_loop (p := p) (q := Q0) hF W0.2.1.1 (c := c) (by omega) n1 n2 d1 d2 r0 8 0 F F rfl (by omega) (by omega)
  rw [z0] at gcan hcan
  have eK : v7_canConvert p (cn c) (cn n) (cn d) = v7_canConvert_3 p F (cn c) (cn n) (cn d) (cn 0) := by
    unfold v7_canConvert bv7_canConvert
    rw [hF]
  have kB : kConv p (cn c) (cn n) (cn d) = if v7_canConvert_3 p F (cn c) (cn n) (cn d) (cn 0) = 0 then 3 else 0 := by
    unfold kConv
    rw [if_neg hc', if_neg hn', if_neg hd', eK]
  have u1 : ¬ v12_in q (cn c) (cn 0) (cn 2) = 0 := hc'
  have u2 : ¬ v12_in q (cn n) (cn 1) (cn 9) = 0 := hn'
  have u3' : ¬ v12_in q (cn d) (cn 1) (cn 9) = 0 := hd'
  have e45 : v12_doConvert q (cn c) (cn n) (cn d) = v12_doConvert_45 F Q0 (cn c) (cn n) (cn d) (cn 0) := by
    unfold v12_doConvert bv12_doConvert
    simp only [if_neg u1, if_neg u2, if_neg u3', hF, hQ0]
  rw [kB] at hk
  rcases hcan with ⟨x1, x2, x3, x4⟩ | ⟨x1, x2, x3⟩
  · obtain ⟨x', P1, Q1, -, -, e2, M⟩ := cv_loop (v2 := cn n) (v3 := cn d) hF (c := c) (by omega) 40 0 F F p Q0 (cn 0) rfl (by omega) (by omega) W0.1.1 W0.2.2.2.2.1
    rw [z0] at e2
    obtain ⟨-, -, -, m4, m5, m6, m7⟩ := M
    have s13 : Q1.1 13 = Q0.1 13 := by
      funext i
      exact m4 13 i (by omega)
    obtain ⟨Q2, e3, f1, f2, f3, -, f5⟩ := z_178 (c := c) (v2 := cn n) (v3 := cn d) (x := x') 60 0 F Q1 rfl (by omega)
    rw [z0] at e3
    have s13' : Q2.1 13 = q.1 13 := by rw [f1 13 (by decide), s13, r13]
    have s2J : Q2.2.1 = q.2.1 := by rw [f3, m5, rJ]
    obtain ⟨zl, hzl, -, zl2⟩ := (H.2.2.1 c (by omega)).1
    obtain ⟨zr, hzr, -, zr2⟩ := (H.2.2.1 c (by omega)).2.1
    have lz := hzl.2.2 (by omega)
    have rz := hzr.2.2 (by omega)
    have lz2 := hzl.2.1
    have rz2 := hzr.2.1
    obtain ⟨y1, y2, y3⟩ := cp_y (q := Q2) (z := zl) (n := n) (d := d) lz lz2 n1 n2 d1 d2
    obtain ⟨Q3, hQ3⟩ : ∃ Q, pI Q2 13 10 c (cn (cvP zl n d)) = Q := ⟨_, rfl⟩
    obtain ⟨w1, w2, w3⟩ := cp_y (q := Q3) (z := zr) (n := n) (d := d) rz rz2 n1 n2 d1 d2
    obtain ⟨Q4, hQ4⟩ : ∃ Q, pI Q3 13 11 c (cn (cvP zr n d)) = Q := ⟨_, rfl⟩
    have zl2' : Q2.1 13 10 c = cn zl := by rw [s13']; exact zl2
    have zr4 : Q3.1 13 11 c = cn zr := by rw [← hQ3, pI_1, u3_i (by decide), s13']; exact zr2
    have yl2 : Q4.1 13 10 c = cn (cvP zl n d) := by rw [← hQ4, pI_1, u3_i (by decide), ← hQ3, pI_at]
    have q4 : ∀ K, ¬ K = 10 → ¬ K = 11 → Q4.1 13 K = q.1 13 K := fun K h h' => by
      rw [← s13', ← hQ4, ← hQ3]
      funext s
      rw [pI_1, u3_i h', pI_1, u3_i h]
    have q4k : ∀ K, ¬ K = 13 → Q4.1 K = Q2.1 K := fun K h => by
      rw [← hQ4, ← hQ3]
      funext i s
      rw [pI_1, u3_k h, pI_1, u3_k h]
    have q4J : Q4.2.1 = q.2.1 := by rw [← s2J, ← hQ4, pI_J, ← hQ3, pI_J]
    have hY : ∀ a, cvY Q4 c n d a = cvY q c n d a := fun a => by
      unfold cvY
      rw [q4 1 (by decide) (by decide)]
    have hok : ∀ a, a < 8 → -1000000 ≤ cvY q c n d a ∧ cvY q c n d a ≤ 1000000 := by
      intro a ha
      have h := x2 a (by omega) ha
      unfold cvY at h ⊢
      rw [r13] at h
      exact h
    obtain ⟨Q5, e6, h4, h5, h7, h8, h9⟩ := z_267 (x := x') (c := c) hc n1 n2 d1 d2 y2 y3 8 0 F Q4 0 rfl (by omega) yl2 (fun a _ ha => by rw [hY a]; exact hok a ha)
    have z0l : cl ((0 : Int)) = cl 0 := rfl
    rw [z0] at e6
    have e60 : v12_doConvert_178 1 Q2 (cn c) (cn n) (cn d) x' (cn 60) = (x', Q5) := by
      have hn60 : ¬ cn 60 < cn 60 := by decide
      rw [show (1 : Nat) = 0 + 1 from rfl, ev12_doConvert_178, hF]
      unfold bv12_doConvert_178
      simp only [if_neg hn60, cntk (i := c) (by omega), zl2', y1, hQ3, zr4, w1, hQ4]
      exact e6
    have hfin : (v12_doConvert q (cn c) (cn n) (cn d)).2 = Q5 := by rw [e45, x3, e2, e3, e60]
    refine ⟨Q5, zl, zr, hfin, fun K k1 k2 k3 => (h5 K k1).trans (q4 K k2 k3), fun S hS => ?_, fun K k1 k2 => ?_, fun C hC => ?_, ⟨zl2, lz, lz2, ?_⟩, ⟨zr2, rz, rz2, ?_⟩, fun a C hC hne => ?_, fun a ha => ?_, fun a ha => ?_, fun k hk60 h0 => ?_⟩
    · rw [h4 12 (by decide), q4k 12 (by decide), f1 12 (by decide), m4 12 1 (by omega), r12 S hS]
    · rw [h4 15 (by decide), q4k 15 (by decide), f2 K k2, m4 15 K (by omega), r15]
    · rw [h5 10 (by decide), h5 11 (by decide), ← hQ4, pI_1, u3_i (by decide), u3_s hC, ← hQ3, pI_1, u3_s hC, u3_i (by decide), s13']
      exact ⟨rfl, rfl⟩
    · rw [h5 10 (by decide)]
      exact yl2
    · rw [h5 11 (by decide), ← hQ4, pI_at]
    · rw [h7 a C hC hne, q4 1 (by decide) (by decide)]
    · have h := h8 a ha
      rw [if_pos (Nat.zero_le _), hY a] at h
      exact ⟨h, hok a ha⟩
    · have h := h9 a ha
      rw [if_pos (Nat.zero_le _), q4J] at h
      exact h
    · rw [h4 15 (by decide), q4k 15 (by decide)] at h0
      obtain ⟨g1, g2⟩ := f5 k (Nat.zero_le _) hk60 h0
      rw [m4 15 8 (by omega), r15] at g1
      rw [s13, r13, has_p (p := Q1) (q := q)] at g2
      exact ⟨g1, g2⟩
  · rw [x1, if_pos cn0e'] at hk
    exact absurd hk (by decide)
end Cnv
