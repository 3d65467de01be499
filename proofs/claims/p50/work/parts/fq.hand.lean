/-! a portfolio is handed over -/
theorem ps_set {f g : Nat → Int32} {A C c : Nat} (hC : C < 4) (hc : c < 4) (h : ∀ k, ¬ k = 4 * A + C → g k = f k) : ∀ n, psF g c n = psF f c n + (if c = C ∧ A < n then max (g (4 * A + C)).toInt (-(g (4 * A + C)).toInt) - max (f (4 * A + C)).toInt (-(f (4 * A + C)).toInt) else 0)
  | 0 => by
    show (0 : Int) = 0 + _
    rw [if_neg (by omega)]
    rfl
  | n + 1 => by
    have ih := ps_set hC hc h n
    show psF g c n + max (g (4 * n + c)).toInt (-(g (4 * n + c)).toInt) = psF f c n + max (f (4 * n + c)).toInt (-(f (4 * n + c)).toInt) + _
    by_cases e : 4 * n + c = 4 * A + C
    · have e1 : n = A := by omega
      have e2 : c = C := by omega
      subst e1
      subst e2
      rw [if_neg (by omega)] at ih
      rw [if_pos ⟨rfl, by omega⟩]
      omega
    · rw [h _ e]
      by_cases e2 : c = C ∧ A < n
      · rw [if_pos e2] at ih
        rw [if_pos ⟨e2.1, by omega⟩]
        omega
      · rw [if_neg e2] at ih
        rw [if_neg (by omega)]
        omega
theorem i32_ac (a b c : Int32) : a + b = a + c + (b - c) := by
  rw [cn_of a, cn_of b, cn_of c]
  simp only [cnadd, cnsub]
  congr 1
  omega
theorem i32_a0 (a : Int32) : a + 0 = a := addz a
theorem s3_set {f g : Nat → Int32} {A C : Nat} (hC : C < 4) (h : ∀ k, ¬ k = 4 * A + C → g k = f k) : ∀ n, s3F g n = s3F f n + (if C = 3 ∧ A < n then g (4 * A + C) - f (4 * A + C) else 0)
  | 0 => by
    show (0 : Int32) = 0 + _
    rw [if_neg (by omega)]
    rfl
  | n + 1 => by
    have ih := s3_set hC h n
    show s3F g n + g (4 * n + 3) = s3F f n + f (4 * n + 3) + _
    by_cases e : 4 * n + 3 = 4 * A + C
    · have e1 : n = A := by omega
      have e2 : C = 3 := by omega
      subst e1
      subst e2
      rw [if_neg (by omega), i32_a0] at ih
      rw [if_pos ⟨rfl, by omega⟩, ih]
      exact i32_ac _ _ _
    · rw [h _ e]
      by_cases e2 : C = 3 ∧ A < n
      · rw [if_pos e2] at ih
        rw [if_pos ⟨e2.1, by omega⟩, ih, Int32.add_assoc, Int32.add_assoc, Int32.add_comm (f (4 * n + 3))]
      · rw [if_neg e2, i32_a0] at ih
        rw [if_neg (by omega), i32_a0, ih]
theorem sF_set {f g : Nat → Int32} {A C c : Nat} (hC : C < 4) (hc : c < 4) (h : ∀ k, ¬ k = 4 * A + C → g k = f k) : ∀ n, sFu g c n = sFu f c n + (if c = C ∧ A < n then g (4 * A + C) - f (4 * A + C) else 0)
  | 0 => by
    rw [if_neg (show ¬ (c = C ∧ A < 0) by omega)]
    rfl
  | n + 1 => by
    have ih := sF_set hC hc h n
    show sFu g c n + g (4 * n + c) = sFu f c n + f (4 * n + c) + _
    by_cases e : 4 * n + c = 4 * A + C
    · have e1 : n = A := by omega
      have e2 : c = C := by omega
      subst e1
      subst e2
      rw [if_neg (by omega), i32_a0] at ih
      rw [if_pos ⟨rfl, by omega⟩, ih]
      exact i32_ac _ _ _
    · rw [h _ e]
      by_cases e2 : c = C ∧ A < n
      · rw [if_pos e2] at ih
        rw [if_pos ⟨e2.1, by omega⟩, ih, Int32.add_assoc, Int32.add_assoc, Int32.add_comm (f (4 * n + c))]
      · rw [if_neg e2, i32_a0] at ih
        rw [if_neg (by omega), i32_a0, ih]
theorem net32 (x y : Int32) : (x.toInt64 + y.toInt64).toInt32 = x + y := by
  rw [cn_of x, cn_of y, cn64 (I_rg _), cn64 (I_rg _), cladd, cl32, cnadd]
/-- positions alone change, and not in all -/
def HS (p p' q q' : PM) : Prop := (∀ K, ¬ K = 13 → p'.1 K = p.1 K) ∧ (∀ i, i % 2 = 0 ∨ 19 ≤ i → p'.1 13 i = p.1 13 i) ∧ p'.2 = p.2 ∧ (∀ K, ¬ K = 13 → q'.1 K = q.1 K) ∧ (∀ K, ¬ K = 1 → q'.1 13 K = q.1 13 K) ∧ q'.2 = q.2 ∧ (∀ a, a < 9 → AcR p' q' a) ∧ (∀ c, c < 4 → psF (q'.1 13 1) c 9 ≤ psF (q.1 13 1) c 9) ∧ s3F (q'.1 13 1) 9 = s3F (q.1 13 1) 9 ∧ ∀ c, c < 4 → sFu (q'.1 13 1) c 9 = sFu (q.1 13 1) c 9
def hcC (p : PM) (m t c : Nat) (x : Int32) : PM := pI (pI (pI p 13 (2 * (t + 1) - 1) c (p.1 13 (2 * (t + 1) - 1) c + x)) 13 (2 * (2 * m + 1) - 1) c (cn 0)) 13 (2 * (2 * m + 2) - 1) c (cn 0)
def hcQ (q : PM) (m t c : Nat) (x : Int32) : PM := pI (pI (pI q 13 1 (4 * t + c) (q.1 13 1 (4 * t + c) + x)) 13 1 (8 * m + c) (cn 0)) 13 1 (8 * m + 4 + c) (cn 0)
section Hand
variable {p p' p2 q q' q2 : PM} {m t c : Nat}
theorem hs_trans (h : HS p p' q q') (h2 : HS p' p2 q' q2) : HS p p2 q q2 := by
  obtain ⟨a1, a2, a3, a4, a5, a6, a7, a8, a9, aX⟩ := h
  obtain ⟨b1, b2, b3, b4, b5, b6, b7, b8, b9, bX⟩ := h2
  exact ⟨fun K h => (b1 K h).trans (a1 K h), fun i h => (b2 i h).trans (a2 i h), b3.trans a3, fun K h => (b4 K h).trans (a4 K h), fun K h => (b5 K h).trans (a5 K h), b6.trans a6, b7, fun c hc => Int.le_trans (b8 c hc) (a8 c hc), b9.trans a9, fun c hc => (bX c hc).trans (aX c hc)⟩
theorem ho_c {x : Int32} (h : ∀ a, a < 9 → AcR p q a) (hm : m < 4) (hc : c < 4) (ht : t < 9) (h1 : ¬ t = 2 * m) (h2 : ¬ t = 2 * m + 1) (hx : x = q.1 13 1 (8 * m + c) + q.1 13 1 (8 * m + 4 + c)) : HS p (hcC p m t c x) q (hcQ q m t c x) := by
  obtain ⟨f0, hf0⟩ : ∃ f0, q.1 13 1 = f0 := ⟨_, rfl⟩
  obtain ⟨f1, hf1⟩ : ∃ f1, (pI q 13 1 (4 * t + c) (q.1 13 1 (4 * t + c) + x)).1 13 1 = f1 := ⟨_, rfl⟩
  obtain ⟨f2, hf2⟩ : ∃ f2, (pI (pI q 13 1 (4 * t + c) (q.1 13 1 (4 * t + c) + x)) 13 1 (8 * m + c) (cn 0)).1 13 1 = f2 := ⟨_, rfl⟩
  obtain ⟨f3, hf3⟩ : ∃ f3, (hcQ q m t c x).1 13 1 = f3 := ⟨_, rfl⟩
  have k1 : ∀ k, ¬ k = 4 * t + c → f1 k = f0 k := fun k hk => by rw [← hf1, ← hf0, pI_1, u3_s hk]
  have k2 : ∀ k, ¬ k = 4 * (2 * m) + c → f2 k = f1 k := fun k hk => by rw [← hf2, ← hf1, pI_1, u3_s (by omega)]
  have k3 : ∀ k, ¬ k = 4 * (2 * m + 1) + c → f3 k = f2 k := fun k hk => by
    rw [← hf3, ← hf2]
    unfold hcQ
    rw [pI_1, u3_s (by omega)]
  have v1 : f1 (4 * t + c) = f0 (4 * t + c) + x := by rw [← hf1, ← hf0, pI_1, u3_same]
  have v2 : f2 (4 * (2 * m) + c) = cn 0 := by rw [← hf2, pI_1, show 4 * (2 * m) + c = 8 * m + c by omega, u3_same]
  have v3 : f3 (4 * (2 * m + 1) + c) = cn 0 := by
    rw [← hf3]
    unfold hcQ
    rw [pI_1, show 4 * (2 * m + 1) + c = 8 * m + 4 + c by omega, u3_same]
  have w2 : f1 (4 * (2 * m) + c) = f0 (4 * (2 * m) + c) := k1 _ (by omega)
  have w3 : f2 (4 * (2 * m + 1) + c) = f0 (4 * (2 * m + 1) + c) := by rw [k2 _ (by omega), k1 _ (by omega)]
  rw [hf0, show 8 * m + c = 4 * (2 * m) + c by omega, show 8 * m + 4 + c = 4 * (2 * m + 1) + c by omega] at hx
  have z0 : (cn 0).toInt = 0 := rfl
  refine ⟨fun K h => ?_, fun i h => ?_, rfl, fun K h => ?_, fun K h => ?_, rfl, ?_, fun C hC => ?_, ?_, fun C hC => ?_⟩
  · funext i S
    unfold hcC
    rw [pI_1, u3_k h, pI_1, u3_k h, pI_1, u3_k h]
  · funext S
    unfold hcC
    rw [pI_1, u3_i (by omega), pI_1, u3_i (by omega), pI_1, u3_i (by omega)]
  · funext i S
    unfold hcQ
    rw [pI_1, u3_k h, pI_1, u3_k h, pI_1, u3_k h]
  · funext S
    unfold hcQ
    rw [pI_1, u3_i h, pI_1, u3_i h, pI_1, u3_i h]
  · have g1 := acr_I (A := t) (v := p.1 13 (2 * (t + 1) - 1) c + x) hc h
    have g2 := acr_I (A := 2 * m) (v := cn 0) hc g1
    have g3 := acr_I (A := 2 * m + 1) (v := cn 0) hc g2
    rw [(h t ht).1 c hc, show 4 * (2 * m) + c = 8 * m + c by omega, show 4 * (2 * m + 1) + c = 8 * m + 4 + c by omega] at g3
    unfold hcC hcQ
    rw [(h t ht).1 c hc]
    exact g3
  · rw [hf3, hf0]
    have e1 := ps_set (c := C) hc hC k1 9
    have e2 := ps_set (c := C) hc hC k2 9
    have e3 := ps_set (c := C) hc hC k3 9
    by_cases hCc : C = c
    · rw [if_pos ⟨hCc, ht⟩, v1] at e1
      rw [if_pos ⟨hCc, by omega⟩, v2, w2, z0] at e2
      rw [if_pos ⟨hCc, by omega⟩, v3, w3, z0] at e3
      have y1 := i32_add_abs (f0 (4 * t + c)) x
      have y2 := i32_add_abs (f0 (4 * (2 * m) + c)) (f0 (4 * (2 * m + 1) + c))
      rw [← hx] at y2
      omega
    · rw [if_neg (fun h => hCc h.1)] at e1 e2 e3
      omega
  · rw [hf3, hf0]
    have e1 := s3_set hc k1 9
    have e2 := s3_set hc k2 9
    have e3 := s3_set hc k3 9
    by_cases hCc : c = 3
    · rw [if_pos ⟨hCc, ht⟩, v1] at e1
      rw [if_pos ⟨hCc, by omega⟩, v2, w2] at e2
      rw [if_pos ⟨hCc, by omega⟩, v3, w3] at e3
      rw [e3, e2, e1, hx]
      generalize f0 (4 * (2 * m) + c) = A
      generalize f0 (4 * (2 * m + 1) + c) = B
      generalize f0 (4 * t + c) = E
      generalize s3F f0 9 = G
      rw [cn_of A, cn_of B, cn_of E, cn_of G]
      simp only [cnadd, cnsub]
      congr 1
      omega
    · rw [if_neg (fun h => hCc h.1), i32_a0] at e1 e2 e3
      rw [e3, e2, e1]
  · rw [hf3, hf0]
    have e1 := sF_set hc hC k1 9
    have e2 := sF_set hc hC k2 9
    have e3 := sF_set hc hC k3 9
    by_cases hCc : C = c
    · rw [if_pos ⟨hCc, ht⟩, v1] at e1
      rw [if_pos ⟨hCc, by omega⟩, v2, w2] at e2
      rw [if_pos ⟨hCc, by omega⟩, v3, w3] at e3
      rw [e3, e2, e1, hx]
      generalize f0 (4 * (2 * m) + c) = A
      generalize f0 (4 * (2 * m + 1) + c) = B
      generalize f0 (4 * t + c) = E
      generalize sFu f0 C 9 = G
      rw [cn_of A, cn_of B, cn_of E, cn_of G]
      simp only [cnadd, cnsub]
      congr 1
      omega
    · rw [if_neg (fun h => hCc h.1), i32_a0] at e1 e2 e3
      rw [e3, e2, e1]
/-- cash follows -/
def hcC2 (p : PM) (m t : Nat) (am : Int64) : PM := pJ (pJ (pJ p 0 (t + 1) 4 (p.2.1 0 (t + 1) 4 - am)) 0 (2 * m + 1) 4 ((pJ p 0 (t + 1) 4 (p.2.1 0 (t + 1) 4 - am)).2.1 0 (2 * m + 1) 4 + ((pJ p 0 (t + 1) 4 (p.2.1 0 (t + 1) 4 - am)).2.1 0 (2 * m + 2) 4 + am))) 0 (2 * m + 2) 4 (cl 0)
def hcQ2 (q : PM) (m t : Nat) (am : Int64) : PM := pJ (pJ (pJ q 14 1 t (q.2.1 14 1 t - am)) 14 1 (2 * m) ((pJ q 14 1 t (q.2.1 14 1 t - am)).2.1 14 1 (2 * m) + ((pJ q 14 1 t (q.2.1 14 1 t - am)).2.1 14 1 (2 * m + 1) + am))) 14 1 (2 * m + 1) (cl 0)
theorem hc2_acr {am : Int64} (h : ∀ a, a < 9 → AcR p q a) (hm : m < 4) (ht : t < 9) (h1 : ¬ t = 2 * m) (h2 : ¬ t = 2 * m + 1) : (∀ a, a < 9 → AcR (hcC2 p m t am) (hcQ2 q m t am) a) ∧ csF ((hcQ2 q m t am).2.1 14 1) 9 ≤ csF (q.2.1 14 1) 9 + 2 * max am.toInt (-am.toInt) := by
  have et := (h t ht).2
  have em := (h (2 * m) (by omega)).2
  have eu := (h (2 * m + 1) (by omega)).2
  have eu' : p.2.1 0 (2 * m + 2) 4 = q.2.1 14 1 (2 * m + 1) := eu
  have dm : (pJ q 14 1 t (q.2.1 14 1 t - am)).2.1 14 1 (2 * m) = q.2.1 14 1 (2 * m) := by rw [pJ_J, u3_s (by omega)]
  have du : (pJ q 14 1 t (q.2.1 14 1 t - am)).2.1 14 1 (2 * m + 1) = q.2.1 14 1 (2 * m + 1) := by rw [pJ_J, u3_s (by omega)]
  have cm : (pJ p 0 (t + 1) 4 (p.2.1 0 (t + 1) 4 - am)).2.1 0 (2 * m + 1) 4 = p.2.1 0 (2 * m + 1) 4 := by rw [pJ_J, u3_i (by omega)]
  have cu : (pJ p 0 (t + 1) 4 (p.2.1 0 (t + 1) 4 - am)).2.1 0 (2 * m + 2) 4 = p.2.1 0 (2 * m + 2) 4 := by rw [pJ_J, u3_i (by omega)]
  unfold hcC2 hcQ2
  rw [dm, du, cm, cu]
  constructor
  · intro a ha
    refine ⟨(h a ha).1, ?_⟩
    rw [pJ_J, pJ_J, pJ_J, pJ_J, pJ_J, pJ_J]
    by_cases e3 : a = 2 * m + 1
    · rw [e3, show 2 * m + 1 + 1 = 2 * m + 2 by omega, u3_same, u3_same]
    · rw [u3_i (by omega), u3_s e3]
      by_cases e2 : a = 2 * m
      · rw [e2, u3_same, u3_same, em, eu']
      · rw [u3_i (by omega), u3_s e2]
        by_cases e1 : a = t
        · rw [e1, u3_same, u3_same, et]
        · rw [u3_i (by omega), u3_s e1]
          exact (h a ha).2
  · obtain ⟨f0, hf0⟩ : ∃ f0, q.2.1 14 1 = f0 := ⟨_, rfl⟩
    rw [hf0]
    obtain ⟨q1, hq1⟩ : ∃ q1, pJ q 14 1 t (f0 t - am) = q1 := ⟨_, rfl⟩
    obtain ⟨q2, hq2⟩ : ∃ q2, pJ q1 14 1 (2 * m) (f0 (2 * m) + (f0 (2 * m + 1) + am)) = q2 := ⟨_, rfl⟩
    rw [hq1, hq2]
    have k1 : ∀ k, ¬ k = t → q1.2.1 14 1 k = f0 k := fun k hk => by rw [← hq1, pJ_J, u3_s hk, hf0]
    have k2 : ∀ k, ¬ k = 2 * m → q2.2.1 14 1 k = q1.2.1 14 1 k := fun k hk => by rw [← hq2, pJ_J, u3_s hk]
    have k3 : ∀ k, ¬ k = 2 * m + 1 → (pJ q2 14 1 (2 * m + 1) (cl 0)).2.1 14 1 k = q2.2.1 14 1 k := fun k hk => by rw [pJ_J, u3_s hk]
    have e1 := cs_set k1 9
    have e2 := cs_set k2 9
    have e3 := cs_set k3 9
    have z0 : (cl 0).toInt = 0 := rfl
    have u1 : q1.2.1 14 1 t = f0 t - am := by rw [← hq1, pJ_J, u3_same]
    have u2 : q2.2.1 14 1 (2 * m) = f0 (2 * m) + (f0 (2 * m + 1) + am) := by rw [← hq2, pJ_J, u3_same]
    have u3' : (pJ q2 14 1 (2 * m + 1) (cl 0)).2.1 14 1 (2 * m + 1) = cl 0 := by rw [pJ_J, u3_same]
    rw [if_pos ht, u1] at e1
    rw [if_pos (by omega), u2, k1 _ (by omega)] at e2
    rw [if_pos (by omega), u3', k2 _ (by omega), k1 _ (by omega), z0] at e3
    have y1 := i64_sub_abs (f0 t) am
    have y2 := i64_add_abs (f0 (2 * m)) (f0 (2 * m + 1) + am)
    have y3 := i64_add_abs (f0 (2 * m + 1)) am
    omega
theorem hc2_tt {am : Int64} (hm : m < 4) (ht : t < 9) (h1 : ¬ t = 2 * m) (h2 : ¬ t = 2 * m + 1) : ToQ (hcQ2 q m t am) = ToQ q := by
  have dm : (pJ q 14 1 t (q.2.1 14 1 t - am)).2.1 14 1 (2 * m) = q.2.1 14 1 (2 * m) := by rw [pJ_J, u3_s (by omega)]
  have du : (pJ q 14 1 t (q.2.1 14 1 t - am)).2.1 14 1 (2 * m + 1) = q.2.1 14 1 (2 * m + 1) := by rw [pJ_J, u3_s (by omega)]
  have dv : (pJ (pJ q 14 1 t (q.2.1 14 1 t - am)) 14 1 (2 * m) (q.2.1 14 1 (2 * m) + (q.2.1 14 1 (2 * m + 1) + am))).2.1 14 1 (2 * m + 1) = q.2.1 14 1 (2 * m + 1) := by rw [pJ_J, u3_s (by omega), du]
  unfold hcQ2
  rw [dm, du, tt_pJ (by omega), tt_pJ (by omega), tt_pJ ht, dm, dv]
  obtain ⟨x, hx⟩ : ∃ x, q.2.1 14 1 t = cl x := ⟨_, cl_of _⟩
  obtain ⟨y, hy⟩ : ∃ y, q.2.1 14 1 (2 * m) = cl y := ⟨_, cl_of _⟩
  obtain ⟨z, hz⟩ : ∃ z, q.2.1 14 1 (2 * m + 1) = cl z := ⟨_, cl_of _⟩
  obtain ⟨w, hw⟩ : ∃ w, am = cl w := ⟨_, cl_of _⟩
  rw [hx, hy, hz, hw]
  simp only [cladd, clsub, Int64.add_assoc]
  exact tt_0 _ (by omega)
theorem hov_loop {best : Int32} {am : Int64} (hm : m < 4) (ht : t < 9) (h1 : ¬ t = 2 * m) (h2 : ¬ t = 2 * m + 1) (h6 : p.1 2 1 6 = cn m) : ∀ (d c n n' : Nat) (p' q' : PM), c + d = 4 → d < n → d < n' → HS p p' q q' → ∃ p2 q2, HS p p2 q q2 ∧ v2_handOver_74 n p' (2 * m + 1) (2 * m + 2) (t + 1) am (cn c) = hcC2 p2 m t am ∧ v12_doCloseOut_72 n' q' (cn m) best am (cn t) (cn c) = v12_doCloseOut_180 (hcQ2 q2 m t am) (cn m) best ∧ g2_handOver_74 n p' (2 * m + 1) (2 * m + 2) (t + 1) am (cn c) ∧ (g12_doCloseOut_180 (hcQ2 q2 m t am) (cn m) best → g12_doCloseOut_72 n' q' (cn m) best am (cn t) (cn c)) := by
  intro d
  induction d with
  | zero =>
    intro c n n' p' q' e1 e2 e3 H
    obtain ⟨n1, rfl⟩ : ∃ z9, n = z9 + 1 := ⟨n - 1, by omega⟩
    obtain ⟨n2, rfl⟩ : ∃ z9, n' = z9 + 1 := ⟨n' - 1, by omega⟩
    have e : c = 4 := by omega
    subst e
    have hn := lpf (i := 4) (N := 4) (by omega) (by omega) (by omega)
    have i1 := cninb (i := 2 * m) (n := 9) (by omega) (by omega)
    have i2 := cninb (i := 2 * m + 1) (n := 9) (by omega) (by omega)
    have i3 := cninb (i := t) (n := 9) (by omega) (by omega)
    refine ⟨p', q', H, ?_, ?_, ?_, fun g => ?_⟩
    · rw [ev2_handOver_74]
      unfold bv2_handOver_74 hcC2
      rw [if_neg hn]
    · rw [ev12_doCloseOut_72]
      unfold bv12_doCloseOut_72 hcQ2
      simp only [if_neg hn, two_m, cnsucc, cntk (i := t) (by omega), cntk (i := 2 * m) (by omega), cntk (i := 2 * m + 1) (by omega)]
    · rw [eg2_handOver_74]
      unfold bg2_handOver_74
      rw [if_neg hn]
      exact ⟨by omega, by omega, by omega, by omega, by omega, by omega, trivial⟩
    · rw [eg12_doCloseOut_72]
      unfold bg12_doCloseOut_72
      unfold hcQ2 at g
      simp only [if_neg hn, two_m, cnsucc, cntk (i := t) (by omega), cntk (i := 2 * m) (by omega), cntk (i := 2 * m + 1) (by omega)]
      exact ⟨i3, i3, i1, i2, i1, i2, g⟩
  | succ d ih =>
    intro c n n' p' q' e1 e2 e3 H
    obtain ⟨n1, rfl⟩ : ∃ z9, n = z9 + 1 := ⟨n - 1, by omega⟩
    obtain ⟨n2, rfl⟩ : ∃ z9, n' = z9 + 1 := ⟨n' - 1, by omega⟩
    have l4 : cn (c : Int) < cn 4 := lpt (by omega) (by omega)
    have hA := H.2.2.2.2.2.2.1
    have h6' : p'.1 2 1 6 = cn m := by rw [H.1 2 (by decide)]; exact h6
    obtain ⟨gn, en⟩ := net_q (q := q') hm (c := c) (by omega)
    have en2 := net_eq hA hm (c := c) (by omega)
    have gp := (net_p (p := p') hm (c := c) (by omega)).1
    obtain ⟨x, hx⟩ : ∃ x, x = q'.1 13 1 (8 * m + c) + q'.1 13 1 (8 * m + 4 + c) := ⟨_, rfl⟩
    have ex : (v12_net q' (cn m) (cn c)).toInt32 = x := by rw [en, net32, hx]
    have H1 := ho_c (p := p') (q := q') hA hm (c := c) (by omega) ht h1 h2 hx
    obtain ⟨p2, q2, k1, k2, k3, k4, k5⟩ := ih (c + 1) n1 n2 (hcC p' m t c x) (hcQ q' m t c x) (by omega) (by omega) (by omega) (hs_trans H H1)
    have a1 : cn 4 * cn (t : Int) + cn (c : Int) = cn ((4 * t + c : Nat) : Int) := by
      rw [cnmul, cnadd]
      exact congrArg cn (by omega)
    have a2 : cn 8 * cn (m : Int) + cn (c : Int) = cn ((8 * m + c : Nat) : Int) := by
      rw [cnmul, cnadd]
      exact congrArg cn (by omega)
    have a3 : cn 8 * cn (m : Int) + cn 4 + cn (c : Int) = cn ((8 * m + 4 + c : Nat) : Int) := by
      rw [cnmul, cnadd, cnadd]
      exact congrArg cn (by omega)
    have i1 := cninb (i := 4 * t + c) (n := 36) (by omega) (by omega)
    have i2 := cninb (i := 8 * m + c) (n := 36) (by omega) (by omega)
    have i3 := cninb (i := 8 * m + 4 + c) (n := 36) (by omega) (by omega)
    have hh := holds_e p' (t + 1) (c := c) (by omega)
    have ghh := g_holds p' (a := t) (c := c) ht (by omega)
    have P1 := fun (P : PM) (v : Int32) => put_e P (A := t + 1) (c := c) (by omega) (by omega) (by omega) v
    have P2 := fun (P : PM) (v : Int32) => put_e P (A := 2 * m + 1) (c := c) (by omega) (by omega) (by omega) v
    have P3 := fun (P : PM) (v : Int32) => put_e P (A := 2 * m + 2) (c := c) (by omega) (by omega) (by omega) v
    refine ⟨p2, q2, k1, ?_, ?_, ?_, fun g => ?_⟩
    · rw [ev2_handOver_74]
      unfold bv2_handOver_74
      simp only [if_pos l4, h6', en2, ex, hh, (P1 _ _).2, (P2 _ _).2, (P3 _ _).2, cnsucc]
      exact k2
    · rw [ev12_doCloseOut_72]
      unfold bv12_doCloseOut_72
      unfold v12_doCloseOut_129 bv12_doCloseOut_129
      simp only [if_pos l4, a1, a2, a3, cntk (i := 4 * t + c) (by omega), cntk (i := 8 * m + c) (by omega), cntk (i := 8 * m + 4 + c) (by omega), ex, cnsucc]
      exact k3
    · rw [eg2_handOver_74]
      unfold bg2_handOver_74
      simp only [if_pos l4, h6', en2, ex, hh, (P1 _ _).2, (P2 _ _).2, (P3 _ _).2, cnsucc]
      exact ⟨gp, by omega, ghh, by omega, (P1 _ _).1, by omega, (P2 _ _).1, by omega, (P3 _ _).1, k4⟩
    · rw [eg12_doCloseOut_72]
      unfold bg12_doCloseOut_72
      unfold g12_doCloseOut_129 bg12_doCloseOut_129
      simp only [if_pos l4, a1, a2, a3, cntk (i := 4 * t + c) (by omega), cntk (i := 8 * m + c) (by omega), cntk (i := 8 * m + 4 + c) (by omega), ex, cnsucc]
      exact ⟨i1, gn, i1, i2, i3, k5 g⟩
end Hand
