/-! a conversion, and how far positions can have come -/
def mpN (M n d : Int) : Int := if (M * d) / n < 116 then 116 else if 9999 < (M * d) / n then 9999 else (M * d) / n
theorem mp_ok {M n d : Int} (n1 : 1 ≤ n) (n3 : n ≤ 3) (d1 : 1 ≤ d) (d3 : d ≤ 3) (m1 : 116 ≤ M) (m2 : M ≤ 9999) : (116 ≤ mpN M n d ∧ mpN M n d ≤ 9999) ∧ (mpN M n d = 116 ∨ n * mpN M n d ≤ d * M) ∧ ∀ z, 1 ≤ z → z ≤ M → cvP z n d ≤ mpN M n d := by
  have hn : n = 1 ∨ n = 2 ∨ n = 3 := by omega
  have hd : d = 1 ∨ d = 2 ∨ d = 3 := by omega
  unfold mpN cvP
  refine ⟨?_, ?_, fun z h1 h2 => ?_⟩
  · split
    · omega
    · split <;> omega
  · by_cases a : (M * d) / n < 116
    · exact Or.inl (if_pos a)
    · refine Or.inr ?_
      rw [if_neg a]
      by_cases b : 9999 < (M * d) / n
      · rw [if_pos b]
        rcases hn with rfl | rfl | rfl <;> rcases hd with rfl | rfl | rfl <;> omega
      · rw [if_neg b]
        rcases hn with rfl | rfl | rfl <;> rcases hd with rfl | rfl | rfl <;> omega
  · have hz : 0 ≤ z * d := Int.mul_nonneg (by omega) (by omega)
    rw [Int.tdiv_eq_ediv_of_nonneg hz]
    rcases hn with rfl | rfl | rfl <;> rcases hd with rfl | rfl | rfl <;> (repeat' split) <;> omega
/-- a number changed -/
def uN (G : Nat → Nat) (c v : Nat) : Nat → Nat := fun i => if i = c then v else G i
def uI (M : Nat → Int) (c : Nat) (v : Int) : Nat → Int := fun i => if i = c then v else M i
theorem uN_s {G : Nat → Nat} {c v : Nat} : uN G c v c = v := if_pos rfl
theorem uN_n {G : Nat → Nat} {c v i : Nat} (h : ¬ i = c) : uN G c v i = G i := if_neg h
theorem uI_s {M : Nat → Int} {c : Nat} {v : Int} : uI M c v c = v := if_pos rfl
theorem uI_n {M : Nat → Int} {c i : Nat} {v : Int} (h : ¬ i = c) : uI M c v i = M i := if_neg h
/-- sums with signs -/
def sgI (f : Nat → Int32) (c : Nat) : Nat → Int
  | 0 => 0
  | n + 1 => sgI f c n + (f (4 * n + c)).toInt
theorem sI_u (f : Nat → Int32) (c : Nat) : ∀ n, sFu f c n = cn (sgI f c n)
  | 0 => rfl
  | n + 1 => by
    show sFu f c n + f (4 * n + c) = cn (sgI f c n + (f (4 * n + c)).toInt)
    rw [sI_u f c n, ← cnadd, ← cn_of]
theorem sI_ab (f : Nat → Int32) (c : Nat) : ∀ n, ab (sgI f c n) ≤ psF f c n
  | 0 => by
    show max (0 : Int) (-0) ≤ 0
    omega
  | n + 1 => by
    have h := sI_ab f c n
    show ab (sgI f c n + (f (4 * n + c)).toInt) ≤ psF f c n + max (f (4 * n + c)).toInt (-(f (4 * n + c)).toInt)
    unfold ab at h ⊢
    omega
theorem sI_0 {f : Nat → Int32} {c n : Nat} (h : sFu f c n = 0) (hb : psF f c n ≤ 2000000000) : sgI f c n = 0 := by
  have h2 := sI_ab f c n
  unfold ab at h2
  rw [sI_u, zcn, cneq ⟨by omega, by omega⟩ (by decide)] at h
  exact h
theorem sI_df {f g : Nat → Int32} {c : Nat} {n d : Int} : ∀ k, (∀ a, a < k → ab (d * (g (4 * a + c)).toInt - n * (f (4 * a + c)).toInt) ≤ d - 1) → ab (d * sgI g c k - n * sgI f c k) ≤ (d - 1) * k
  | 0, _ => by
    show ab (d * 0 - n * 0) ≤ (d - 1) * ((0 : Nat) : Int)
    have e : (d - 1) * ((0 : Nat) : Int) = 0 := Int.mul_zero _
    rw [e, Int.mul_zero, Int.mul_zero]
    decide
  | k + 1, h => by
    have h1 := sI_df (f := f) (g := g) (c := c) (n := n) (d := d) k fun a ha => h a (by omega)
    have h2 := h k (by omega)
    have e1 : d * (sgI g c k + (g (4 * k + c)).toInt) = d * sgI g c k + d * (g (4 * k + c)).toInt := Int.mul_add _ _ _
    have e2 : n * (sgI f c k + (f (4 * k + c)).toInt) = n * sgI f c k + n * (f (4 * k + c)).toInt := Int.mul_add _ _ _
    have e3 : (d - 1) * ((k + 1 : Nat) : Int) = (d - 1) * (k : Int) + (d - 1) := by
      rw [Int.natCast_succ, Int.mul_add, Int.mul_one]
    show ab (d * (sgI g c k + (g (4 * k + c)).toInt) - n * (sgI f c k + (f (4 * k + c)).toInt)) ≤ (d - 1) * ((k + 1 : Nat) : Int)
    rw [e1, e2, e3]
    unfold ab at h1 h2 ⊢
    omega
theorem psF_sc {f g : Nat → Int32} {c : Nat} {n d : Int} : ∀ k, (∀ a, a < k → d * ab (g (4 * a + c)).toInt ≤ n * ab (f (4 * a + c)).toInt) → d * psF g c k ≤ n * psF f c k
  | 0, _ => by
    show d * 0 ≤ n * 0
    omega
  | k + 1, h => by
    have h1 := psF_sc (f := f) (g := g) (c := c) (n := n) (d := d) k fun a ha => h a (by omega)
    have h2 := h k (by omega)
    have e1 : d * (psF g c k + ab (g (4 * k + c)).toInt) = d * psF g c k + d * ab (g (4 * k + c)).toInt := Int.mul_add _ _ _
    have e2 : n * (psF f c k + ab (f (4 * k + c)).toInt) = n * psF f c k + n * ab (f (4 * k + c)).toInt := Int.mul_add _ _ _
    show d * (psF g c k + ab (g (4 * k + c)).toInt) ≤ n * (psF f c k + ab (f (4 * k + c)).toInt)
    omega
theorem sc_cut {T T' M M' n d : Int} (h : d * T' ≤ n * T) (h2 : n * M' ≤ d * M) (hT : 0 ≤ T) (hM' : 0 ≤ M') (n1 : 1 ≤ n) (d1 : 1 ≤ d) : T' * M' ≤ T * M := by
  have k1 := mul_le_r (x := n * M') (Int.mul_nonneg (by omega) hM') h
  have k2 := mul_le_l (x := n * T) (Int.mul_nonneg (by omega) hT) h2
  have k3 : (d * n) * (T' * M') ≤ (d * n) * (T * M) := by
    have e1 : d * T' * (n * M') = (d * n) * (T' * M') := by ac_rfl
    have e2 : n * T * (d * M) = (d * n) * (T * M) := by ac_rfl
    omega
  exact Int.le_of_mul_le_mul_left k3 (Int.mul_pos (by omega) (by omega))
theorem sc_cut2 {h h' M M' n d r : Int} (h1 : d * h' ≤ n * h + r) (h2 : n * M' ≤ d * M) (hh : 0 ≤ h) (r0 : 0 ≤ r) (m0 : 0 ≤ M') (m1 : M' ≤ 9999) : d * (h' * M') ≤ d * (h * M) + 9999 * r := by
  have k1 := mul_le_r (x := M') m0 h1
  have k2 := mul_le_l (x := h) hh h2
  have k3 := mul_le_l (x := r) r0 m1
  have e1 : d * h' * M' = d * (h' * M') := by ac_rfl
  have e2 : (n * h + r) * M' = h * (n * M') + r * M' := by
    rw [Int.add_mul]
    congr 1
    ac_rfl
  have e3 : h * (d * M) = d * (h * M) := by ac_rfl
  omega
theorem s3_cv {T T' M M' E P n d : Int} (H : S3 T M E P) (hE : 0 ≤ E) (hT : 0 ≤ T) (hT' : 0 ≤ T') (h : d * T' ≤ n * T) (hcap : T' ≤ 8000000) (n1 : 1 ≤ n) (n3 : n ≤ 3) (d1 : 1 ≤ d) (hM : M' = 116 ∨ n * M' ≤ d * M) (m0 : 0 ≤ M') (p1 : 1 ≤ P) : S3 T' M' E (3 * P) := by
  obtain ⟨a1, a2, a3, a4⟩ := H
  have x1 := mul_le_r (x := T') hT' d1
  have x2 := mul_le_r (x := T) hT n3
  have x3 : E * (3 * P) = 3 * (E * P) := by ac_rfl
  have x4 : 0 ≤ E * P := Int.mul_nonneg hE (by omega)
  have x5 : T' ≤ 3 * (E * P) := by omega
  rcases hM with rfl | hM
  · exact ⟨by omega, by omega, by omega, by omega⟩
  · have x6 := sc_cut h hM hT m0 n1 d1
    exact ⟨by omega, by omega, by omega, by omega⟩
theorem s4_cv {T T' M M' E n d : Int} {g : Nat} (H : S4 T M E g) (hE : 0 ≤ E) (hT : 0 ≤ T) (h : d * T' ≤ n * T) (hcap : T' ≤ 2000000) (n1 : 1 ≤ n) (d1 : 1 ≤ d) (hM : M' = 116 ∨ n * M' ≤ d * M) (m0 : 0 ≤ M') (g1 : 1 ≤ g) : S4 T' M' E g := by
  obtain ⟨a1, a2⟩ := H
  have g1' : (1 : Int) ≤ g := by omega
  have x1 := mul_le_r (x := 2000000 + 2 * E) (by omega) g1'
  have x2 := mul_le_r (x := 232000000 + 19998 * E) (by omega) g1'
  rcases hM with rfl | hM
  · exact ⟨by omega, by omega⟩
  · have x6 := sc_cut h hM hT m0 n1 d1
    exact ⟨by omega, by omega⟩
theorem s5_cv {h h' M M' P n d : Int} {k : Nat} (H : S5 h M P k) (hh : 0 ≤ h) (h1 : d * h' ≤ n * h + 8 * (d - 1)) (n3 : n ≤ 3) (d1 : 1 ≤ d) (d3 : d ≤ 3) (hM : M' = 116 ∨ n * M' ≤ d * M) (m0 : 0 ≤ M') (m1 : M' ≤ 9999) (p1 : 1 ≤ P) : S5 h' M' (3 * P) (k + 1) := by
  obtain ⟨a1, a2⟩ := H
  have x1 := mul_le_r (x := h) hh n3
  have hd : d = 1 ∨ d = 2 ∨ d = 3 := by omega
  have y1 : 3 * h' ≤ 8 * (3 * P - 1) := by rcases hd with rfl | rfl | rfl <;> omega
  have ek : ((k + 1 : Nat) : Int) = (k : Int) + 1 := rfl
  refine ⟨y1, ?_⟩
  rw [ek]
  rcases hM with rfl | hM
  · omega
  · have x6 := sc_cut2 h1 hM hh (by omega) m0 m1
    rcases hd with rfl | rfl | rfl <;> omega
section BnC
variable {q q' : PM} {G : Nat → Nat} {M : Nat → Int} {t c : Nat} {n d zl zr : Int}
theorem bn_conv (hc : c < 3) (n1 : 1 ≤ n) (n3 : n ≤ 3) (d1 : 1 ≤ d) (d3 : d ≤ 3) (H : BN q G M t) (hb : psF (q.1 13 1) c 9 ≤ 2000000000) (hb' : psF (q'.1 13 1) c 9 ≤ 2000000000) (hS : sFu (q.1 13 1) c 9 = 0) (hS' : sFu (q'.1 13 1) c 9 = 0) (e13 : ∀ K, ¬ K = 1 → ¬ K = 10 → ¬ K = 11 → q'.1 13 K = q.1 13 K) (e12 : ∀ S, ¬ S = 0 → q'.1 12 1 S = q.1 12 1 S) (e15 : ∀ K, ¬ K = 3 → ¬ K = 8 → q'.1 15 K = q.1 15 K) (eL : ∀ C, ¬ C = c → q'.1 13 10 C = q.1 13 10 C ∧ q'.1 13 11 C = q.1 13 11 C) (el : q.1 13 10 c = cn zl ∧ 1 ≤ zl ∧ zl ≤ 9999 ∧ q'.1 13 10 c = cn (cvP zl n d)) (er : q.1 13 11 c = cn zr ∧ 1 ≤ zr ∧ zr ≤ 9999 ∧ q'.1 13 11 c = cn (cvP zr n d)) (eP : ∀ a C, C < 4 → ¬ C = c → q'.1 13 1 (4 * a + C) = q.1 13 1 (4 * a + C)) (eQ : ∀ a, a < 8 → q'.1 13 1 (4 * a + c) = cn (cvY q c n d a) ∧ -1000000 ≤ cvY q c n d a ∧ cvY q c n d a ≤ 1000000) (eC : ∀ a, a < 8 → ab (q'.2.1 14 1 a).toInt ≤ ab (q.2.1 14 1 a).toInt + 9999) (e8 : ∀ k, k < 60 → q'.1 15 8 k = cn 0 → q.1 15 8 k = cn 0 ∧ v12_hasContract q (q.1 13 30 k) (cn c) = 0) : BN q' (uN G c (G c + 1)) (uI M c (mpN (M c) n d)) (t + 1) := by
  obtain ⟨⟨⟨p1, p2, p3, p4, p5⟩, m1, m2⟩, ⟨f1, f2, f3⟩, ⟨s1, s2⟩, s3, s4', s5, ⟨s6, s6'⟩, s7, ⟨g1, g2, g3, g4⟩, s8⟩ := H
  obtain ⟨⟨w1, w2⟩, w3, w4⟩ := mp_ok n1 n3 d1 d3 (m1 c (by omega)).1 (m1 c (by omega)).2
  have eF : q'.1 13 4 = q.1 13 4 := e13 4 (by decide) (by decide) (by decide)
  have e95 : q'.1 12 1 95 = q.1 12 1 95 := e12 95 (by decide)
  have e57 : q'.1 12 1 57 = q.1 12 1 57 := e12 57 (by decide)
  have e9 : q'.1 15 9 = q.1 15 9 := e15 9 (by decide) (by decide)
  have e10 : q'.1 15 10 = q.1 15 10 := e15 10 (by decide) (by decide)
  have hEE : EE q' (uN G c (G c + 1)) = EE q G := by
    unfold EE
    rw [eF, uN_n (show ¬ 4 = c by omega)]
  have hE0 : 0 ≤ EE q G := by
    unfold EE
    exact Int.mul_nonneg f1 (by omega)
  have hGn : ∀ m, Gone q' m ↔ Gone q m := fun m => by
    unfold Gone
    rw [e9, e57]
  have hgn : ∀ m, gn q' m = gn q m := fun m => by
    unfold gn
    rw [e9, e57]
  have hop : opn q' = opn q := by
    unfold opn
    rw [e57, e10]
  have hmv : ∀ s C, mvI q' s C = mvI q s C := fun s C => by
    unfold mvI
    rw [e13 35 (by decide) (by decide) (by decide)]
  -- one position
  have pos : ∀ a, a < 8 → d * ab (q'.1 13 1 (4 * a + c)).toInt ≤ n * ab (q.1 13 1 (4 * a + c)).toInt ∧ ab (q'.1 13 1 (4 * a + c)).toInt ≤ 1000000 ∧ ab (d * (q'.1 13 1 (4 * a + c)).toInt - n * (q.1 13 1 (4 * a + c)).toInt) ≤ d - 1 := by
    intro a ha
    obtain ⟨h1, h2, h3⟩ := eQ a ha
    have e : (q'.1 13 1 (4 * a + c)).toInt = cvY q c n d a := by rw [h1, cn_I ⟨by omega, by omega⟩]
    rw [e]
    obtain ⟨x, hx⟩ : ∃ x, (q.1 13 1 (4 * a + c)).toInt = x := ⟨_, rfl⟩
    have eY : cvY q c n d a = (x * n).tdiv d := by
      unfold cvY
      rw [hx]
    obtain ⟨Y, hY⟩ : ∃ Y, cvY q c n d a = Y := ⟨_, rfl⟩
    obtain ⟨t1, t2, t3, t4, t5⟩ := tm_rng (A := x * n) (B := d) (by omega)
    rw [← eY, hY] at t1
    obtain ⟨u1, u2⟩ := td_rng (A := x * n) (B := d) (by omega)
    rw [← eY, hY] at u1 u2
    rw [hY] at h2 h3 ⊢
    rw [hx]
    have k1 : n * ab x = ab (x * n) := by
      unfold ab
      rcases Int.le_total 0 x with h | h
      · have hh : 0 ≤ x * n := Int.mul_nonneg h (by omega)
        rw [show max x (-x) = x by omega, show max (x * n) (-(x * n)) = x * n by omega]
        exact Int.mul_comm _ _
      · have hh : 0 ≤ (-x) * n := Int.mul_nonneg (by omega) (by omega)
        rw [Int.neg_mul] at hh
        rw [show max x (-x) = -x by omega, show max (x * n) (-(x * n)) = -(x * n) by omega, Int.mul_neg, Int.mul_comm]
    have k2 : d * ab Y = ab (d * Y) := by
      unfold ab
      rcases Int.le_total 0 Y with h | h
      · have hh : 0 ≤ d * Y := Int.mul_nonneg (by omega) h
        rw [show max Y (-Y) = Y by omega]
        omega
      · have hh : 0 ≤ d * (-Y) := Int.mul_nonneg (by omega) (by omega)
        rw [Int.mul_neg] at hh
        rw [show max Y (-Y) = -Y by omega, Int.mul_neg]
        omega
    have k3 : n * x = x * n := Int.mul_comm _ _
    rw [k1, k2, k3]
    unfold ab
    rcases Int.le_total 0 (x * n) with h | h
    · have z1 := t4 h
      have z2 := u1 h
      have z3 : 0 ≤ d * Y := Int.mul_nonneg (by omega) z2.1
      refine ⟨by omega, by omega, by omega⟩
    · have z1 := t5 h
      have z2 := u2 h
      have z3 : 0 ≤ d * (-Y) := Int.mul_nonneg (by omega) (by omega)
      rw [Int.mul_neg] at z3
      refine ⟨by omega, by omega, by omega⟩
  have hT := psF_sc (f := q.1 13 1) (g := q'.1 13 1) (c := c) (n := n) (d := d) 8 (fun a ha => (pos a ha).1)
  have hTc := psF_bd (f := q'.1 13 1) (c := c) (M := 1000000) 8 (fun a ha => (pos a ha).2.1)
  have hT0 := psF_nn (f := q.1 13 1) (c := c) 8
  have hT0' := psF_nn (f := q'.1 13 1) (c := c) 8
  have hC : ∀ C, C < 4 → ¬ C = c → psF (q'.1 13 1) C 8 = psF (q.1 13 1) C 8 := fun C h h2 => psF_congr (fun a => eP a C h h2) 8
  refine ⟨⟨⟨?_, ?_, ?_, fun C hC4 => ?_, fun k hk => ?_⟩, fun C hC4 => ?_, ?_⟩, ⟨?_, ?_, ?_⟩, ⟨fun C hC3 => ?_, ?_⟩, fun m C hm hC3 hgo => ?_, fun h7 C hC3 => ?_, fun r hr => ?_, ⟨fun s C hs hC4 => ?_, ?_⟩, fun m hm h0 => ?_, ⟨fun m hm h => ?_, fun m hm h => ?_, ?_, ?_⟩, ?_⟩
  · rw [e13 24 (by decide) (by decide) (by decide), e13 25 (by decide) (by decide) (by decide), e13 16 (by decide) (by decide) (by decide), e13 19 (by decide) (by decide) (by decide)]
    exact p1
  · rw [e13 18 (by decide) (by decide) (by decide), e13 16 (by decide) (by decide) (by decide)]
    exact p2
  · rw [e13 26 (by decide) (by decide) (by decide)]
    exact p3
  · by_cases eq : C = c
    · subst eq
      obtain ⟨l1, l2, l3, l4⟩ := el
      obtain ⟨r1, r2, r3, r4⟩ := er
      obtain ⟨b1, b2⟩ := p4 C hC4
      rw [l1, cn_I ⟨by omega, by omega⟩] at b1
      rw [r1, cn_I ⟨by omega, by omega⟩] at b2
      have x1 := w4 zl l2 b1
      have x2 := w4 zr r2 b2
      have y1 := (cp_y (q := q) l2 l3 n1 (by omega) d1 (by omega)).2
      have y2 := (cp_y (q := q) r2 r3 n1 (by omega) d1 (by omega)).2
      rw [uI_s, l4, r4, cn_I ⟨by omega, by omega⟩, cn_I ⟨by omega, by omega⟩]
      exact ⟨x1, x2⟩
    · rw [uI_n eq, (eL C eq).1, (eL C eq).2]
      exact p4 C hC4
  · rw [e13 30 (by decide) (by decide) (by decide), e13 33 (by decide) (by decide) (by decide)]
    obtain ⟨⟨b1, b2⟩, b3⟩ := p5 k hk
    refine ⟨⟨b1, b2⟩, fun C hC4 h0 hn => ?_⟩
    obtain ⟨a1, a2⟩ := e8 k hk h0
    by_cases eq : C = c
    · have ev : q.1 13 30 k = cn (C : Int) := by
        have h1 : (q.1 13 30 k).toInt = C := by
          have h2 : (q.1 13 30 k).toNatClampNeg = (q.1 13 30 k).toInt.toNat := rfl
          omega
        rw [← h1]
        exact cn_of _
      rw [ev, eq] at a2
      exact absurd a2 (has_self (by omega))
    · rw [uI_n eq]
      exact b3 C hC4 a1 hn
  · by_cases eq : C = c
    · rw [eq, uI_s]
      exact ⟨w1, w2⟩
    · rw [uI_n eq]
      exact m1 C hC4
  · rw [uI_n (show ¬ 3 = c by omega)]
    exact m2
  · rw [eF]
    exact f1
  · rw [eF, e95]
    exact f2
  · rw [e95, uN_n (show ¬ 3 = c by omega)]
    exact f3
  · rw [hEE]
    by_cases eq : C = c
    · subst eq
      rw [uI_s, uN_s, pw_s]
      exact s3_cv (s1 C hC3) hE0 hT0 hT0' hT (by omega) n1 n3 d1 w3 (by omega) (pw_1 _)
    · rw [uI_n eq, uN_n eq, hC C (by omega) eq]
      exact s1 C hC3
  · rw [hEE, hC 3 (by decide) (by omega)]
    exact s2
  · rw [hEE]
    have hgo' : ¬ Gone q m := fun h => hgo ((hGn m).mpr h)
    rw [uN_n (show ¬ 8 + m = c by omega)]
    have hq := s3 m C hm hC3 hgo'
    by_cases eq : C = c
    · subst eq
      rw [uI_s]
      obtain ⟨x1, x2, -⟩ := pos (2 * m) (by omega)
      obtain ⟨y1, y2, -⟩ := pos (2 * m + 1) (by omega)
      rw [show 4 * (2 * m) + C = 8 * m + C by omega] at x1 x2
      rw [show 4 * (2 * m + 1) + C = 8 * m + 4 + C by omega] at y1 y2
      have hq0 : 0 ≤ qs q m C := by
        unfold qs ab
        omega
      have hsc : d * qs q' m C ≤ n * qs q m C := by
        unfold qs
        rw [Int.mul_add, Int.mul_add]
        omega
      exact s4_cv hq hE0 hq0 hsc (by unfold qs; omega) n1 d1 w3 (by omega) (g2 m hm hgo')
    · rw [uI_n eq]
      have e1 := eP (2 * m) C (by omega) eq
      have e2 := eP (2 * m + 1) C (by omega) eq
      rw [show 4 * (2 * m) + C = 8 * m + C by omega] at e1
      rw [show 4 * (2 * m + 1) + C = 8 * m + 4 + C by omega] at e2
      have eqs : qs q' m C = qs q m C := by
        unfold qs
        rw [e1, e2]
      rw [eqs]
      exact hq
  · rw [uN_n (show ¬ 7 = c by omega)] at h7
    have h := s4' h7 C hC3
    by_cases eq : C = c
    · subst eq
      rw [uI_s, uN_s, pw_s]
      have i1 := sI_0 hS hb
      have i2 := sI_0 hS' hb'
      have j1 : sgI (q.1 13 1) C 8 + (q.1 13 1 (4 * 8 + C)).toInt = 0 := i1
      have j2 : sgI (q'.1 13 1) C 8 + (q'.1 13 1 (4 * 8 + C)).toInt = 0 := i2
      rw [show 4 * 8 + C = 32 + C by omega] at j1 j2
      have j3 := sI_df (f := q.1 13 1) (g := q'.1 13 1) (c := C) (n := n) (d := d) 8 (fun a ha => (pos a ha).2.2)
      have hh0 : 0 ≤ hh q C := by
        unfold hh ab
        omega
      refine s5_cv h hh0 ?_ n3 d1 d3 w3 (by omega) w2 (pw_1 _)
      obtain ⟨x, hx⟩ : ∃ x, (q.1 13 1 (32 + C)).toInt = x := ⟨_, rfl⟩
      obtain ⟨x', hx'⟩ : ∃ x', (q'.1 13 1 (32 + C)).toInt = x' := ⟨_, rfl⟩
      rw [hx] at j1
      rw [hx'] at j2
      have k1 : sgI (q.1 13 1) C 8 = -x := by omega
      have k2 : sgI (q'.1 13 1) C 8 = -x' := by omega
      rw [k1, k2, Int.mul_neg, Int.mul_neg] at j3
      unfold hh
      rw [hx, hx']
      unfold ab at j3 ⊢
      have z8 : (d - 1) * ((8 : Nat) : Int) = 8 * (d - 1) := Int.mul_comm _ _
      rw [z8] at j3
      have y1 : d * max x' (-x') = max (d * x') (-(d * x')) := by
        rcases Int.le_total 0 x' with h | h
        · have hh : 0 ≤ d * x' := Int.mul_nonneg (by omega) h
          rw [show max x' (-x') = x' by omega]
          omega
        · have hh : 0 ≤ d * (-x') := Int.mul_nonneg (by omega) (by omega)
          rw [Int.mul_neg] at hh
          rw [show max x' (-x') = -x' by omega, Int.mul_neg]
          omega
      have y2 : n * max x (-x) = max (n * x) (-(n * x)) := by
        rcases Int.le_total 0 x with h | h
        · have hh : 0 ≤ n * x := Int.mul_nonneg (by omega) h
          rw [show max x (-x) = x by omega]
          omega
        · have hh : 0 ≤ n * (-x) := Int.mul_nonneg (by omega) (by omega)
          rw [Int.mul_neg] at hh
          rw [show max x (-x) = -x by omega, Int.mul_neg]
          omega
      rw [y1, y2]
      omega
    · rw [uI_n eq, uN_n eq]
      have e1 := eP 8 C (by omega) eq
      rw [show 4 * 8 + C = 32 + C by omega] at e1
      unfold hh at h ⊢
      rw [e1]
      exact h
  · rw [e13 34 (by decide) (by decide) (by decide), eF]
    exact s5 r hr
  · rw [hmv, uN_n (show ¬ 12 + C = c by omega)]
    exact s6 s C hs hC4
  · rw [uN_n (show ¬ 12 = c by omega), uN_n (show ¬ 13 = c by omega), uN_n (show ¬ 14 = c by omega), uN_n (show ¬ 15 = c by omega), uN_n (show ¬ 5 = c by omega)]
    exact s6'
  · rw [e9] at h0
    rw [hEE]
    obtain ⟨x1, x2⟩ := s7 m hm h0
    have y1 := eC (2 * m) (by omega)
    have y2 := eC (2 * m + 1) (by omega)
    omega
  · rw [uN_n (show ¬ 8 + m = c by omega)]
    exact g1 m hm ((hGn m).mp h)
  · rw [uN_n (show ¬ 8 + m = c by omega)]
    exact g2 m hm (fun h' => h ((hGn m).mpr h'))
  · rw [uN_n (show ¬ 8 = c by omega), uN_n (show ¬ 9 = c by omega), uN_n (show ¬ 10 = c by omega), uN_n (show ¬ 11 = c by omega), uN_n (show ¬ 7 = c by omega)]
    exact g3
  · rw [hgn, hgn, hgn, hgn, uN_n (show ¬ 6 = c by omega), uN_n (show ¬ 7 = c by omega)]
    exact g4
  · rw [hop, uN_n (show ¬ 3 = c by omega), uN_n (show ¬ 4 = c by omega), uN_n (show ¬ 5 = c by omega), uN_n (show ¬ 6 = c by omega)]
    have hcs : c = 0 ∨ c = 1 ∨ c = 2 := by omega
    rcases hcs with rfl | rfl | rfl
    · rw [uN_s, uN_n (show ¬ 1 = 0 by decide), uN_n (show ¬ 2 = 0 by decide)]
      omega
    · rw [uN_n (show ¬ 0 = 1 by decide), uN_s, uN_n (show ¬ 2 = 1 by decide)]
      omega
    · rw [uN_n (show ¬ 0 = 2 by decide), uN_n (show ¬ 1 = 2 by decide), uN_s]
      omega
end BnC
