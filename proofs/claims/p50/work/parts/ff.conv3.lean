/-! a contract is converted, whole -/
section Conv3
variable {p q : PM} {lg : Nat → Int32} {N T D l c b : Nat}
theorem sF_congr {f g : Nat → Int32} {c : Nat} : ∀ n, (∀ m, m < n → g (4 * m + c) = f (4 * m + c)) → sFu g c n = sFu f c n
  | 0, _ => rfl
  | n + 1, h => by
    show sFu g c n + _ = sFu f c n + _
    rw [sF_congr n (fun m hm => h m (by omega)), h n (by omega)]
theorem psF_congr {f g : Nat → Int32} {c : Nat} (h : ∀ m, g (4 * m + c) = f (4 * m + c)) : ∀ n, psF g c n = psF f c n
  | 0 => rfl
  | n + 1 => by
    show psF g c n + _ = psF f c n + _
    rw [psF_congr h n, h n]
theorem s3F_congr {f g : Nat → Int32} (h : ∀ m, g (4 * m + 3) = f (4 * m + 3)) : ∀ n, s3F g n = s3F f n
  | 0 => rfl
  | n + 1 => by
    show s3F g n + _ = s3F f n + _
    rw [s3F_congr h n, h n]
theorem psF_bd {f : Nat → Int32} {c : Nat} {M : Int} : ∀ n, (∀ a, a < n → max (f (4 * a + c)).toInt (-(f (4 * a + c)).toInt) ≤ M) → psF f c n ≤ M * n
  | 0, _ => by
    show (0 : Int) ≤ M * ((0 : Nat) : Int)
    omega
  | n + 1, h => by
    have h1 := psF_bd n fun a ha => h a (by omega)
    have h2 := h n (by omega)
    have e : M * ((n + 1 : Nat) : Int) = M * (n : Int) + M := by
      rw [Int.natCast_succ, Int.mul_add, Int.mul_one]
    show psF f c n + _ ≤ _
    rw [e]
    omega
/-- positions of the contract c, and cash, so far -/
def CvR (c : Nat) (n d : Int) (i : Nat) (S : Int) (p p' q q' : PM) : Prop := (∀ K, ¬ K = 13 → p'.1 K = p.1 K) ∧ (∀ j, j % 2 = 0 ∨ 19 ≤ j → p'.1 13 j = p.1 13 j) ∧ p'.2.2 = p.2.2 ∧ (∀ K, ¬ K = 13 → q'.1 K = q.1 K) ∧ (∀ K, ¬ K = 1 → q'.1 13 K = q.1 13 K) ∧ (∀ a, a < 9 → AcR p' q' a) ∧ (∀ m C, C < 4 → ¬ C = c → q'.1 13 1 (4 * m + C) = q.1 13 1 (4 * m + C)) ∧ (∀ a, i ≤ a → q'.1 13 1 (4 * a + c) = q.1 13 1 (4 * a + c)) ∧ (∀ a, a < i → max (q'.1 13 1 (4 * a + c)).toInt (-(q'.1 13 1 (4 * a + c)).toInt) ≤ 1000000) ∧ csF (q'.2.1 14 1) 9 ≤ csF (q.2.1 14 1) 9 + 200000 * (i : Int) ∧ -(1000000 * (i : Int)) ≤ S ∧ S ≤ 1000000 * (i : Int) ∧ sFu (q'.1 13 1) c i = cn S ∧ cSu (q'.2.1 14 1) 9 = cSu (q.2.1 14 1) 9
theorem cvp_loop (hc : c < 3) {n d z : Int} {x : Int32} (n1 : 1 ≤ n) (n2 : n ≤ 9) (d1 : 1 ≤ d) (d2 : d ≤ 9) (z1 : 1 ≤ z) (z2 : z ≤ 9999) (hz : q.1 13 10 c = cn z) (hok : ∀ a, a < 8 → -1000000 ≤ cvY q c n d a ∧ cvY q c n d a ≤ 1000000) : ∀ (dd i m m' : Nat) (p' q' : PM) (S : Int), i + dd = 8 → dd < m → dd < m' → CvR c n d i S p p' q q' → (g7_convertPositions_14 m p' (cn c) (cn n) (cn d) (cn z) 9 (cl S) (cn i) ∧ g12_doConvert_267 m' q' (cn c) (cn n) (cn d) x (cl S) (cn i)) ∧ ∃ P Q : PM, v7_convertPositions_14 m p' (cn c) (cn n) (cn d) (cn z) 9 (cl S) (cn i) = P ∧ v12_doConvert_267 m' q' (cn c) (cn n) (cn d) x (cl S) (cn i) = (x, Q) ∧ (∀ K, ¬ K = 13 → P.1 K = p.1 K) ∧ (∀ j, j % 2 = 0 ∨ 19 ≤ j → P.1 13 j = p.1 13 j) ∧ P.2.2 = p.2.2 ∧ (∀ K, ¬ K = 13 → Q.1 K = q.1 K) ∧ (∀ K, ¬ K = 1 → Q.1 13 K = q.1 13 K) ∧ (∀ a, a < 9 → AcR P Q a) ∧ (∀ m C, C < 4 → ¬ C = c → Q.1 13 1 (4 * m + C) = q.1 13 1 (4 * m + C)) ∧ psF (Q.1 13 1) c 9 ≤ 16000000 ∧ csF (Q.2.1 14 1) 9 ≤ csF (q.2.1 14 1) 9 + 2000000 ∧ sFu (Q.1 13 1) c 9 = 0 ∧ cSu (Q.2.1 14 1) 9 = cSu (q.2.1 14 1) 9 := by
  have n0 : (0 : Int32) < cn d := by
    rw [zcn, cnlt (by decide) ⟨by omega, by omega⟩]
    omega
  have hz9 : ¬ (9 : Nat) = 0 := by decide
  intro dd
  induction dd with
  | zero =>
    intro i m m' p' q' S h1 h2 h3 hR
    obtain ⟨m1, rfl⟩ : ∃ z9, m = z9 + 1 := ⟨m - 1, by omega⟩
    obtain ⟨m2, rfl⟩ : ∃ z9, m' = z9 + 1 := ⟨m' - 1, by omega⟩
    have e : i = 8 := by omega
    subst e
    have hn := lpf (i := 8) (N := 8) (by omega) (by omega) (by omega)
    obtain ⟨r1, r2, r3, r4, r5, r6, r7, r8, r9, r10, r11, r12, r13, r14⟩ := hR
    have eS : (-cl S).toInt32 = cn (-S) := by rw [clneg, cl32]
    obtain ⟨g1, e1⟩ := put_e p' (A := 9) (c := c) (by decide) (by decide) (by omega) (cn (-S))
    have i32 : cn 32 + cn (c : Int) = cn ((4 * 8 + c : Nat) : Int) := by
      rw [cnadd]
      exact congrArg cn (by omega)
    have hi := cninb (i := 4 * 8 + c) (n := 36) (by omega) (by omega)
    have hA := acr_I (A := 8) (v := cn (-S)) (c := c) (by omega) r6
    rw [ev7_convertPositions_14, eg7_convertPositions_14, ev12_doConvert_267, eg12_doConvert_267]
    unfold bv7_convertPositions_14 bg7_convertPositions_14 bv12_doConvert_267 bg12_doConvert_267
    simp only [if_neg hn, eS, e1, i32, cntk (i := 4 * 8 + c) (by omega)]
    refine ⟨⟨⟨hz9, g1, trivial⟩, hi, trivial⟩, _, _, rfl, rfl, fun K h => ?_, fun j h => ?_, r3, fun K h => ?_, fun K h => ?_, hA, fun m C h h' => ?_, ?_, ?_, ?_, ?_⟩
    · rw [← r1 K h]
      funext j s
      rw [pI_1, u3_k h]
    · rw [← r2 j h]
      funext s
      rw [pI_1, u3_i (by omega)]
    · rw [← r4 K h]
      funext j s
      rw [pI_1, u3_k h]
    · rw [← r5 K h]
      funext s
      rw [pI_1, u3_i h]
    · rw [pI_1, u3_s (by omega)]
      exact r7 m C h h'
    · have b1 := psF_bd (f := (pI q' 13 1 (4 * 8 + c) (cn (-S))).1 13 1) (c := c) (M := 1000000) 8 (fun a ha => by
        rw [pI_1, u3_s (by omega)]
        exact r9 a ha)
      have b2 : ((pI q' 13 1 (4 * 8 + c) (cn (-S))).1 13 1 (4 * 8 + c)).toInt = -S := by rw [pI_at, cn_I ⟨by omega, by omega⟩]
      show psF _ c 8 + max ((pI q' 13 1 (4 * 8 + c) (cn (-S))).1 13 1 (4 * 8 + c)).toInt (-((pI q' 13 1 (4 * 8 + c) (cn (-S))).1 13 1 (4 * 8 + c)).toInt) ≤ _
      rw [b2]
      omega
    · rw [pI_J]
      omega
    · show sFu _ c 8 + (pI q' 13 1 (4 * 8 + c) (cn (-S))).1 13 1 (4 * 8 + c) = 0
      rw [pI_at, sF_congr (f := q'.1 13 1) 8 (fun m hm => by rw [pI_1, u3_s (by omega)]), r13, cnadd, show S + -S = 0 by omega]
      rfl
    · rw [pI_J]
      exact r14
  | succ dd ih =>
    intro i m m' p' q' S h1 h2 h3 hR
    obtain ⟨m1, rfl⟩ : ∃ z9, m = z9 + 1 := ⟨m - 1, by omega⟩
    obtain ⟨m2, rfl⟩ : ∃ z9, m' = z9 + 1 := ⟨m' - 1, by omega⟩
    obtain ⟨r1, r2, r3, r4, r5, r6, r7, r8, r9, r10, r11, r12, r13, r14⟩ := hR
    have l8 : cn (i : Int) < cn 8 := lpt (by omega) (by omega)
    have aa := account_e p' (a := i) (by omega)
    have gaa := g_account p' (a := i) (by omega)
    have hzi : ¬ i + 1 = 0 := by omega
    have hh := holds_e p' (i + 1) (c := c) (by omega)
    have gh := g_holds p' (a := i) (c := c) (by omega) (by omega)
    have hpos := (r6 i (by omega)).1 c (by omega)
    have hq := r8 i (Nat.le_refl _)
    rw [hpos, hq] at hh
    obtain ⟨⟨gs, es⟩, e1, e2, e3, e4, e5, e6⟩ := sc_e (p := p') (v := q.1 13 1 (4 * i + c)) n1 n2 d1 d2
    have eY : ((q.1 13 1 (4 * i + c)).toInt * n).tdiv d = cvY q c n d i := rfl
    obtain ⟨t1, t2, t3, -, -⟩ := tm_rng (A := (q.1 13 1 (4 * i + c)).toInt * n) (B := d) (by omega)
    rw [eY] at es e2 t1
    obtain ⟨y1, y2⟩ := hok i (by omega)
    obtain ⟨Y, hY⟩ : ∃ Y, cvY q c n d i = Y := ⟨_, rfl⟩
    rw [hY] at es e2 t1 y1 y2
    obtain ⟨X, hX⟩ : ∃ X, (q.1 13 1 (4 * i + c)).toInt * n = X := ⟨_, rfl⟩
    rw [hX] at e1 e2 t1 t2 t3 e5 e6
    have e2' := e2
    rw [e3] at e2'
    have eR : cl X - cl Y * cl d = cl (X.tmod d) := by
      rw [clmul, clsub, Int.mul_comm]
      exact congrArg cl (by omega)
    have bR := mul_bd (n := X.tmod d) (m := z) (A := 9) (B := 9999) (by omega) (by omega) (by omega) (by omega)
    have eM : cl (X.tmod d) * (cn z).toInt64 = cl (X.tmod d * z) := by rw [cn64 ⟨by omega, by omega⟩, clmul]
    obtain ⟨fd1, fd2⟩ := fd_e p' (A := X.tmod d * z) (B := d) ⟨by omega, by omega⟩ (by omega) (by omega)
    obtain ⟨fl1, fl2⟩ := fl_e q' (A := X.tmod d * z) (B := d) ⟨by omega, by omega⟩ (by omega) (by omega)
    have fdb : v14_floorDiv_b2ac5 p' (cl (X.tmod d * z)) (cn d) = cl (X.tmod d * z / d) ∧ g14_floorDiv_b2ac5 p' (cl (X.tmod d * z)) (cn d) := by
      unfold v14_floorDiv_b2ac5 bv14_floorDiv_b2ac5 g14_floorDiv_b2ac5 bg14_floorDiv_b2ac5
      rw [e3]
      exact ⟨fd2, fd1, trivial⟩
    have bF : -100000 ≤ X.tmod d * z / d ∧ X.tmod d * z / d ≤ 100000 := by
      have u1 := td_rng (A := X.tmod d * z) (B := d) (by omega)
      rw [td_fl (by omega)]
      rcases Int.le_total 0 (X.tmod d * z) with h | h
      · have := u1.1 h
        split <;> omega
      · have := u1.2 h
        split <;> omega
    obtain ⟨f, hf⟩ : ∃ f, X.tmod d * z / d = f := ⟨_, rfl⟩
    rw [hf] at fdb fl2 bF
    have eY32 : (cl Y).toInt32 = cn Y := cl32 Y
    obtain ⟨gp, ep⟩ := put_e p' (A := i + 1) (c := c) hzi (by omega) (by omega) (cn Y)
    have hi36 := cninb (i := 4 * i + c) (n := 36) (by omega) (by omega)
    have hi9 := cninb (i := i) (n := 9) (by omega) (by omega)
    have hic6 := cninb (i := c) (n := 6) (by omega) (by omega)
    have hzq : q'.1 13 10 c = cn z := by
      rw [r5 10 (by decide)]
      exact hz
    -- the step
    obtain ⟨P6, hP6⟩ : ∃ P, pI p' 13 (2 * (i + 1) - 1) c (cn Y) = P := ⟨_, rfl⟩
    obtain ⟨Q5, hQ5⟩ : ∃ Q, pI q' 13 1 (4 * i + c) (cn Y) = Q := ⟨_, rfl⟩
    have A1 := acr_I (A := i) (v := cn Y) (c := c) (by omega) r6
    rw [hP6, hQ5] at A1
    obtain ⟨P7, hP7⟩ : ∃ P, pJ P6 0 (i + 1) 4 (P6.2.1 0 (i + 1) 4 + cl f) = P := ⟨_, rfl⟩
    obtain ⟨Q6, hQ6⟩ : ∃ Q, pJ Q5 14 1 i (Q5.2.1 14 1 i + cl f) = Q := ⟨_, rfl⟩
    have A2 := acr_J (A := i) A1 (u := P6.2.1 0 (i + 1) 4 + cl f) (w := Q5.2.1 14 1 i + cl f) (by rw [(A1 i (by omega)).2])
    rw [hP7, hQ6] at A2
    obtain ⟨P8, hP8⟩ : ∃ P, pJ P7 0 9 4 (P7.2.1 0 9 4 - cl f) = P := ⟨_, rfl⟩
    obtain ⟨Q7, hQ7⟩ : ∃ Q, pJ Q6 14 1 8 (Q6.2.1 14 1 8 - cl f) = Q := ⟨_, rfl⟩
    have A3 := acr_J (A := 8) A2 (u := P7.2.1 0 9 4 - cl f) (w := Q6.2.1 14 1 8 - cl f) (by rw [(A2 8 (by omega)).2])
    rw [hP8, hQ7] at A3
    have w1 := cs_add (q := Q5) (A := i) (X := f) (by omega) (by omega)
    rw [hQ6] at w1
    have w2 := cs_sub (q := Q6) (A := 8) (X := f) (by omega) (by omega)
    rw [hQ7] at w2
    have m0 : Q5.2.1 = q'.2.1 := by rw [← hQ5, pI_J]
    rw [m0] at w1
    have P81 : P8.1 = P6.1 := by rw [← hP8, pJ_1, ← hP7, pJ_1]
    have Q71 : Q7.1 = Q5.1 := by rw [← hQ7, pJ_1, ← hQ6, pJ_1]
    have hR2 : CvR c n d (i + 1) (S + Y) p P8 q Q7 := by
      refine ⟨fun K h => ?_, fun j h => ?_, ?_, fun K h => ?_, fun K h => ?_, A3, fun m C h h' => ?_, fun a ha => ?_, fun a ha => ?_, by omega, by omega, by omega, ?_, ?_⟩
      · rw [P81, ← hP6, ← r1 K h]
        funext j s
        rw [pI_1, u3_k h]
      · rw [P81, ← hP6, ← r2 j h]
        funext s
        rw [pI_1, u3_i (by omega)]
      · rw [← r3, ← hP8, pJ_R, ← hP7, pJ_R, ← hP6, pI_R]
      · rw [Q71, ← hQ5, ← r4 K h]
        funext j s
        rw [pI_1, u3_k h]
      · rw [Q71, ← hQ5, ← r5 K h]
        funext s
        rw [pI_1, u3_i h]
      · rw [Q71, ← hQ5, pI_1, u3_s (by omega)]
        exact r7 m C h h'
      · rw [Q71, ← hQ5, pI_1, u3_s (by omega)]
        exact r8 a (by omega)
      · rw [Q71, ← hQ5]
        by_cases e : a = i
        · rw [e, pI_at, cn_I ⟨by omega, by omega⟩]
          omega
        · rw [pI_1, u3_s (by omega)]
          exact r9 a (by omega)
      · show sFu (Q7.1 13 1) c i + Q7.1 13 1 (4 * i + c) = _
        rw [Q71, ← hQ5, pI_at, sF_congr (f := q'.1 13 1) i (fun m hm => by rw [pI_1, u3_s (by omega)]), r13, cnadd]
      · have v1 := cS_upd (f := Q5.2.1 14 1) (g := Q6.2.1 14 1) (a := i) (v := cl f) (fun m hm => by rw [← hQ6, pJ_J, u3_s hm]) (by rw [← hQ6, pJ_J, u3_same]) 9
        have v2 := cS_upd (f := Q6.2.1 14 1) (g := Q7.2.1 14 1) (a := 8) (v := cl (-f)) (fun m hm => by rw [← hQ7, pJ_J, u3_s hm]) (by rw [← hQ7, pJ_J, u3_same, Int64.sub_eq_add_neg, clneg]) 9
        rw [if_pos (by omega)] at v1 v2
        rw [v2, v1, Int64.add_assoc, cladd, show f + -f = 0 by omega, m0, r14]
        exact Int64.add_zero _
    obtain ⟨⟨k1, k2⟩, P, Q, k3, k4, k5⟩ := ih (i + 1) m1 m2 P8 Q7 (S + Y) (by omega) (by omega) (by omega) hR2
    refine ⟨⟨?_, ?_⟩, P, Q, ?_, ?_, k5⟩
    · rw [eg7_convertPositions_14]
      unfold bg7_convertPositions_14
      simp only [if_pos l8, if_pos n0, aa, hh, es, e1, e3, eR, eM, fdb.1, eY32, ep, hP6, hP7, hP8, cladd, cnsucc]
      exact ⟨gaa, hzi, gh, gs, fdb.2, hzi, gp, hzi, hzi, hz9, hz9, k1⟩
    · rw [eg12_doConvert_267]
      unfold bg12_doConvert_267
      simp only [if_pos l8, idx4, cntk (i := 4 * i + c) (by omega), cntk (i := c) (by omega), cntk (i := i) (by omega), hq, e1, e2', e3, eR, hzq, eM, fl2, eY32, hQ5, hQ6, hQ7, cladd, cnsucc]
      exact ⟨hi36, e4, hic6, fl1, hi36, hi9, hi9, k2⟩
    · rw [ev7_convertPositions_14]
      unfold bv7_convertPositions_14
      simp only [if_pos l8, if_pos n0, aa, hh, es, e1, e3, eR, eM, fdb.1, eY32, ep, hP6, hP7, hP8, cladd, cnsucc]
      exact k3
    · rw [ev12_doConvert_267]
      unfold bv12_doConvert_267
      simp only [if_pos l8, idx4, cntk (i := 4 * i + c) (by omega), cntk (i := c) (by omega), cntk (i := i) (by omega), hq, e1, e2', e3, eR, hzq, eM, fl2, eY32, hQ5, hQ6, hQ7, cladd, cnsucc]
      exact k4
noncomputable def kConv (p : PM) (c n d : Int32) : Nat := if isW c (cn 0) (cn 2) = 0 then 1 else if isW n (cn 1) (cn 9) = 0 then 2 else if isW d (cn 1) (cn 9) = 0 then 2 else if v7_canConvert p c n d = 0 then 3 else 0
theorem do_conv {e : Nat} {vc vn vd : Int32} (he : e + 1 ≤ 2000) (H : WW p q (lgB lg e) 99 99 (fun _ => False) N T D 6 (fun _ => 0)) (hfc : ¬ lg 4006 = cn 1 ∨ ¬ lg 4007 = cn 1) : g12_doConvert q vc vn vd ∧ DoE (lgB lg (e + 1)) q N T D 60 0 (kConv p vc vn vd) (g5_convertContract p vc vn vd) (v5_convertContract p vc vn vd) (v12_doConvert q vc vn vd) := by
  have c10 : ¬ cn 1 = (0 : Int32) := by decide
  have c20 : ¬ cn 2 = (0 : Int32) := by decide
  have gi := fun v a b => g_in q v a b
  obtain ⟨F, hF, hF2⟩ : ∃ F, FU = F ∧ 100 < F := ⟨FU, rfl, by decide⟩
  obtain ⟨F1, hF1⟩ : ∃ F1, F = F1 + 1 := ⟨F - 1, by omega⟩
  have t1 := cv45_t (q := pI q 12 1 0 (cn 1)) (a := vc) (b := vn) (c := vd) (i := cn 0) (n := F1) (by rw [t_1]; exact c10)
  have t2 := cv45_t (q := pI q 12 1 0 (cn 2)) (a := vc) (b := vn) (c := vd) (i := cn 0) (n := F1) (by rw [t_1]; exact c20)
  rw [← hF1] at t1 t2
  by_cases hc : isW vc (cn 0) (cn 2) = 0
  · have kA : kConv p vc vn vd = 1 := by
      unfold kConv
      rw [if_pos hc]
    have hc' : v12_in q vc (cn 0) (cn 2) = 0 := hc
    rw [kA]
    refine ⟨?_, fun h => absurd h (by decide), fun _ => ?_⟩
    · unfold g12_doConvert bg12_doConvert
      simp only [if_pos hc', hF]
      exact ⟨gi _ _ _, t1.2⟩
    · unfold v12_doConvert bv12_doConvert
      simp only [if_pos hc', hF, t1.1]
      all_goals rfl
  have hc' : ¬ v12_in q vc (cn 0) (cn 2) = 0 := hc
  by_cases hn : isW vn (cn 1) (cn 9) = 0
  · have kA : kConv p vc vn vd = 2 := by
      unfold kConv
      rw [if_neg hc, if_pos hn]
    have hn' : v12_in q vn (cn 1) (cn 9) = 0 := hn
    rw [kA]
    refine ⟨?_, fun h => absurd h (by decide), fun _ => ?_⟩
    · unfold g12_doConvert bg12_doConvert
      simp only [if_neg hc', if_pos hn', hF]
      exact ⟨gi _ _ _, gi _ _ _, t2.2⟩
    · unfold v12_doConvert bv12_doConvert
      simp only [if_neg hc', if_pos hn', hF, t2.1]
      all_goals rfl
  have hn' : ¬ v12_in q vn (cn 1) (cn 9) = 0 := hn
  by_cases hd : isW vd (cn 1) (cn 9) = 0
  · have kA : kConv p vc vn vd = 2 := by
      unfold kConv
      rw [if_neg hc, if_neg hn, if_pos hd]
    have hd' : v12_in q vd (cn 1) (cn 9) = 0 := hd
    rw [kA]
    refine ⟨?_, fun h => absurd h (by decide), fun _ => ?_⟩
    · unfold g12_doConvert bg12_doConvert
      simp only [if_neg hc', if_neg hn', if_pos hd', hF]
      exact ⟨gi _ _ _, gi _ _ _, gi _ _ _, t2.2⟩
    · unfold v12_doConvert bv12_doConvert
      simp only [if_neg hc', if_neg hn', if_pos hd', hF, t2.1]
      all_goals rfl
  have hd' : ¬ v12_in q vd (cn 1) (cn 9) = 0 := hd
  obtain ⟨c, c2, rfl⟩ := isW_n (b := 2) (by decide) hc
  obtain ⟨n, n1, n2, rfl⟩ := isW_z (a := 1) (b := 9) (by decide) (by decide) hn
  obtain ⟨d, d1, d2, rfl⟩ := isW_z (a := 1) (b := 9) (by decide) (by decide) hd
  have W0 := ww_th (cn 0) H
  generalize hQ0 : pI q 12 1 0 (cn 0) = Q0 at W0
  have r0 : Q0.1 12 1 0 = 0 := by rw [← hQ0]; exact t_1
  have RQ0 : RS Q0 40 = RS q 40 := by rw [← hQ0, RS_th]
  have z0 : cn ((0 : Nat) : Int) = cn 0 := rfl
  obtain ⟨gcan, hcan⟩ := can_loop (p := p) (q := Q0) hF W0.2.1.1 (c := c) (by omega) n1 n2 d1 d2 r0 8 0 F F rfl (by omega) (by omega)
  rw [z0] at gcan hcan
  have eK : v7_canConvert p (cn c) (cn n) (cn d) = v7_canConvert_3 p F (cn c) (cn n) (cn d) (cn 0) := by
    unfold v7_canConvert bv7_canConvert
    rw [hF]
  have kB : kConv p (cn c) (cn n) (cn d) = if v7_canConvert_3 p F (cn c) (cn n) (cn d) (cn 0) = 0 then 3 else 0 := by
    unfold kConv
    rw [if_neg hc, if_neg hn, if_neg hd, eK]
  have e45 : v12_doConvert q (cn c) (cn n) (cn d) = v12_doConvert_45 F Q0 (cn c) (cn n) (cn d) (cn 0) := by
    unfold v12_doConvert bv12_doConvert
    simp only [if_neg hc', if_neg hn', if_neg hd', hF, hQ0]
  have g45 : g12_doConvert_45 F Q0 (cn c) (cn n) (cn d) (cn 0) → g12_doConvert q (cn c) (cn n) (cn d) := by
    intro h
    unfold g12_doConvert bg12_doConvert
    simp only [if_neg hc', if_neg hn', if_neg hd', hF, hQ0]
    exact ⟨gi _ _ _, gi _ _ _, gi _ _ _, h⟩
  rw [kB, e45]
  rcases hcan with ⟨x1, x2, x3, x4⟩ | ⟨x1, x2, x3⟩
  · rw [x1, if_neg cn01, x3]
    -- orders go
    obtain ⟨x', P1, Q1, ⟨g1, g2⟩, e1, e2, M⟩ := cv_loop (v2 := cn n) (v3 := cn d) hF (c := c) (by omega) 40 0 F F p Q0 (cn 0) rfl (by omega) (by omega) W0.1.1 W0.2.2.2.2.1
    rw [z0] at g1 g2 e1 e2
    have W1 := w_mk M W0
    have R1 := rs_mk M W0.1.1
    -- trades are forgotten
    obtain ⟨P2, Q2, ⟨g3, g4⟩, e3, e4, hFg, hDR⟩ := fg_loop (p := P1) (q := Q1) (D := D) (v2 := cn n) (v3 := cn d) (x := x') (c := c) (by omega) hF 60 0 F F P1 Q1 rfl (by omega) (by omega) ⟨fun _ _ => rfl, fun _ _ _ => rfl, rfl, fun _ _ => rfl, fun _ _ => rfl, rfl⟩ W1.2.2.2.2.1 W1.2.2.2.1
    rw [z0] at g3 g4 e3 e4
    obtain ⟨W2, R2⟩ := fg_ww hFg W1 hDR
    -- prices
    obtain ⟨zl, hzl, zl1, zl2⟩ := (W2.2.2.1 c (by omega)).1
    obtain ⟨zr, hzr, zr1, zr2⟩ := (W2.2.2.1 c (by omega)).2.1
    obtain ⟨y, y1, y2, ⟨gy1, gy2⟩, ey1, ey2⟩ := cp_e (p := P2) (q := Q2) (z := zl) (n := n) (d := d) (hzl.2.2 (by omega)) hzl.2.1 n1 n2 d1 d2
    obtain ⟨W3, R3⟩ := ww_last (b := c) (v := y) W2 (by omega) ⟨by omega, by omega, fun _ => y1⟩
    obtain ⟨P3, hP3⟩ : ∃ P, pI P2 1 (c + 1) 3 (cn y) = P := ⟨_, rfl⟩
    obtain ⟨Q3, hQ3⟩ : ∃ Q, pI Q2 13 10 c (cn y) = Q := ⟨_, rfl⟩
    rw [hP3, hQ3] at W3
    rw [hQ3] at R3
    have zr3 : P3.1 1 (c + 1) 4 = cn zr := by rw [← hP3, pI_1, u3_s (by decide)]; exact zr1
    have zr4 : Q3.1 13 11 c = cn zr := by rw [← hQ3, pI_1, u3_i (by decide)]; exact zr2
    obtain ⟨w, w1, w2, ⟨gw1, gw2⟩, ew1, ew2⟩ := cp_e (p := P3) (q := Q3) (z := zr) (n := n) (d := d) (hzr.2.2 (by omega)) hzr.2.1 n1 n2 d1 d2
    obtain ⟨W4, R4⟩ := ww_ref (b := c) (v := w) W3 (by omega) ⟨by omega, by omega, fun _ => w1⟩
    obtain ⟨P4, hP4⟩ : ∃ P, pI P3 1 (c + 1) 4 (cn w) = P := ⟨_, rfl⟩
    obtain ⟨Q4, hQ4⟩ : ∃ Q, pI Q3 13 11 c (cn w) = Q := ⟨_, rfl⟩
    rw [hP4, hQ4] at W4
    rw [hQ4] at R4
    have yl1 : P4.1 1 (c + 1) 3 = cn y := by rw [← hP4, pI_1, u3_s (by decide), ← hP3, pI_at]
    have yl2 : Q4.1 13 10 c = cn y := by rw [← hQ4, pI_1, u3_i (by decide), ← hQ3, pI_at]
    -- positions
    have q1 : Q4.1 13 1 = Q0.1 13 1 := by
      rw [← hQ4, ← hQ3]
      funext s
      rw [pI_1, u3_i (by decide), pI_1, u3_i (by decide), hFg.2.2.2.1 13 (by decide), M.2.2.2.1 13 1 (by decide)]
    have hok : ∀ a, a < 8 → -1000000 ≤ cvY Q4 c n d a ∧ cvY Q4 c n d a ≤ 1000000 := by
      intro a ha
      have h := x2 a (by omega) ha
      unfold cvY at h ⊢
      rw [q1]
      exact h
    have hR : CvR c n d 0 0 P4 P4 Q4 Q4 := ⟨fun _ _ => rfl, fun _ _ => rfl, rfl, fun _ _ => rfl, fun _ _ => rfl, W4.2.1.1, fun _ _ _ _ => rfl, fun _ _ => rfl, fun a ha => by omega, by omega, by omega, by omega, rfl, rfl⟩
    obtain ⟨⟨g5, g6⟩, P5, Q5, e5, e6, h1, h2, h3, h4, h5, h6, h7, h8, h9, hS9, hC9⟩ := cvp_loop (x := x') (c := c) (by omega) n1 n2 d1 d2 y1 y2 yl2 hok 8 0 F F P4 Q4 0 rfl (by omega) (by omega) hR
    rw [z0] at g5 g6 e5 e6
    obtain ⟨p1, p2, p3, p4, p5⟩ := W4.2.2.2.2.2.1.2.2.2.2.2.2.2.2.2.2
    have hD4 := W4.2.2.2.1.2.2.1
    have hD5 : Q5.1 12 1 48 = cn D := by rw [h4 12 (by decide)]; exact hD4
    have hDle := W4.2.2.2.1.2.2.2
    have hPD : PD Q5 (lgB lg (e + 1)) := by
      refine ⟨fun C hC => ?_, ?_, ?_, fun hf => ⟨fun C hC => ?_, ?_⟩, fun hf1 hf2 => ?_⟩
      · rw [lgB_2 he, hD5, cn_I ⟨by omega, by omega⟩]
        by_cases eC : C = c
        · rw [eC]
          omega
        · rw [psF_congr (fun m => h7 m C hC eC)]
          have h := p1 C hC
          rw [lgB_2 (by omega), hD4, cn_I ⟨by omega, by omega⟩] at h
          omega
      · rw [s3F_congr (fun m => h7 m 3 (by decide) (by omega))]
        exact p2
      · rw [lgB_3 (by omega), hD4, cn_I ⟨by omega, by omega⟩] at p3
        rw [lgB_3 he, hD5, cn_I ⟨by omega, by omega⟩]
        omega
      · rw [lgB_o (by decide) (by decide)] at hf
        rw [lgB_o (by decide) (by decide)] at p4
        by_cases eC : C = c
        · rw [eC]
          exact hS9
        · rw [sF_congr 9 (fun m _ => h7 m C (by omega) eC)]
          exact (p4 hf).1 C hC
      · rw [lgB_o (by decide) (by decide)] at hf
        rw [lgB_o (by decide) (by decide), lgB_o (by decide) (by decide), lgB_o (by decide) (by decide)] at p4
        rw [hC9, lgB_o (by decide) (by decide), lgB_o (by decide) (by decide)]
        exact (p4 hf).2
      · rw [lgB_o (by decide) (by decide)] at hf1 hf2
        exact absurd hf2 (hfc.elim (fun h => absurd hf1 h) id)
    obtain ⟨W5, R5⟩ := ww_lat W4 (lgB_lg (e := e) (e' := e + 1)) (fun K _ _ h => h1 K h) h2 (by rw [h3]) (fun K h _ _ _ => h5 K h) (h5 30 (by decide)) (fun K _ _ => by rw [h4 15 (by decide)]) (fun S _ => by rw [h4 12 (by decide)]) h6 (brl_c (h1 1 (by decide)) (fun i _ _ => h5 i (by omega)) (by rw [h4 15 (by decide)]) W4.2.2.1) (dr_c (h1 4 (by decide)) (h1 7 (by decide)) (by rw [h3]) (fun i _ _ => h5 i (by omega)) (by rw [h4 15 (by decide)]) (by rw [h4 15 (by decide)]) (by rw [h4 12 (by decide)]) W4.2.2.2.1) (ck_c (h1 0 (by decide)) (h1 1 (by decide)) W4.2.2.2.2.1) hPD
    have bk := fun p => book_e p (a := c) (by omega)
    have gbk := fun p => g_book p (a := c) (by omega)
    have hzc : ¬ c + 1 = 0 := by omega
    have hic6 := cninb (i := c) (n := 6) (by omega) (by omega)
    have a8 : v7_accountAt P4 (cn 8) = 9 := account_e P4 (a := 8) (by omega)
    have ga8 : g7_accountAt P4 (cn 8) := g_account P4 (a := 8) (by omega)
    have eC : v5_convertContract p (cn c) (cn n) (cn d) = (x', P5) ∧ g5_convertContract p (cn c) (cn n) (cn d) := by
      have f1 : v6_withdrawContract p (cn c) = (x', P1) ∧ g6_withdrawContract p (cn c) := by
        unfold v6_withdrawContract bv6_withdrawContract g6_withdrawContract bg6_withdrawContract
        rw [hF]
        exact ⟨e1, g1⟩
      have f2 : v7_forget P1 (cn c) = P2 ∧ g7_forget P1 (cn c) := by
        unfold v7_forget bv7_forget g7_forget bg7_forget
        rw [hF]
        exact ⟨e3, g3⟩
      have f3 : v7_convertPositions P4 (cn c) (cn n) (cn d) (cn y) = P5 ∧ g7_convertPositions P4 (cn c) (cn n) (cn d) (cn y) := by
        unfold v7_convertPositions bv7_convertPositions g7_convertPositions bg7_convertPositions
        rw [a8, hF]
        exact ⟨e5, ga8, g5⟩
      unfold v5_convertContract bv5_convertContract g5_convertContract bg5_convertContract
      simp only [f1.1, f2.1, bk, zl1, ey1, hP3, zr3, ew1, hP4, yl1, f3.1]
      exact ⟨trivial, f1.2, f2.2, gbk _, hzc, gy1, hzc, hzc, gw1, hzc, hzc, f3.2, trivial⟩
    have e60 : v12_doConvert_178 1 Q2 (cn c) (cn n) (cn d) x' (cn 60) = (x', Q5) ∧ g12_doConvert_178 1 Q2 (cn c) (cn n) (cn d) x' (cn 60) := by
      have hn60 : ¬ cn 60 < cn 60 := by decide
      rw [show (1 : Nat) = 0 + 1 from rfl, ev12_doConvert_178, eg12_doConvert_178, hF]
      unfold bv12_doConvert_178 bg12_doConvert_178
      simp only [if_neg hn60, cntk (i := c) (by omega), zl2, ey2, hQ3, zr4, ew2, hQ4]
      exact ⟨e6, hic6, gy2, hic6, hic6, gw2, hic6, g6⟩
    rw [e2, e4, e60.1]
    refine ⟨g45 (x4 (g2 (g4 e60.2))), fun _ => ⟨eC.2, ?_, ?_⟩, fun h => absurd rfl h⟩
    · show Q5.1 12 1 0 = cn 0
      rw [h4 12 (by decide), ← hQ4, pI_1, u3_k (by decide), ← hQ3, pI_1, u3_k (by decide), hFg.2.2.2.1 12 (by decide), M.2.2.2.1 12 1 (by decide)]
      exact r0
    · rw [eC.1]
      exact ⟨rfl, N, T, D, ⟨Nat.le_refl _, Nat.le_refl _⟩, ⟨Nat.le_refl _, Nat.le_refl _⟩, W5, by show (T : Int) + RS Q5 40 ≤ _; omega, by show (D : Int) + RS Q5 40 ≤ _; omega⟩
  · rw [x1, if_pos cn0e', x2]
    refine ⟨g45 x3, fun h => absurd h (by decide), fun _ => ?_⟩
    show pI Q0 12 1 0 (cn 3) = _
    rw [← hQ0, t_t]
    rfl
end Conv3
