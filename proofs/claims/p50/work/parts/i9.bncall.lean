/-! the call of a member that has not failed -/
section BnK
variable {p q : PM} {G : Nat → Nat} {M : Nat → Int} {t m : Nat}
theorem le_mn {x : Int} {a b : Nat} (h1 : x ≤ (a : Int)) (h2 : x ≤ (b : Int)) : x ≤ ((mnN a b : Nat) : Int) := by
  rw [mnN_min]
  omega
theorem ab_mul {Z v μ : Int} (h1 : -μ ≤ v) (h2 : v ≤ μ) : -(Z * v) ≤ ab Z * μ := by
  unfold ab
  rcases Int.le_total 0 Z with h | h
  · have h3 := mul_le_l h (show -v ≤ μ by omega)
    rw [show max Z (-Z) = Z by omega]
    rw [Int.mul_neg] at h3
    exact h3
  · have h3 := mul_le_l (x := -Z) (by omega) h2
    rw [show max Z (-Z) = -Z by omega]
    have h4 : -Z * v = -(Z * v) := Int.neg_mul _ _
    omega
/-- what all sum up to nothing bounds each by half -/
theorem z_half {f : Nat → Int32} {C : Nat} (hm : m < 4) (h : sgI f C 9 = 0) : 2 * ab ((f (8 * m + C)).toInt + (f (8 * m + 4 + C)).toInt) ≤ psF f C 8 + ab (f (32 + C)).toInt := by
  obtain ⟨x, hx⟩ : ∃ x : Nat → Int, ∀ a, (f (4 * a + C)).toInt = x a := ⟨_, fun _ => rfl⟩
  obtain ⟨y, hy⟩ : ∃ y : Nat → Int, ∀ a, ab (x a) = y a := ⟨_, fun _ => rfl⟩
  have e1 : 0 + x 0 + x 1 + x 2 + x 3 + x 4 + x 5 + x 6 + x 7 + x 8 = 0 := by
    rw [← hx 0, ← hx 1, ← hx 2, ← hx 3, ← hx 4, ← hx 5, ← hx 6, ← hx 7, ← hx 8]
    exact h
  have e2 : psF f C 8 = 0 + y 0 + y 1 + y 2 + y 3 + y 4 + y 5 + y 6 + y 7 := by
    rw [← hy 0, ← hy 1, ← hy 2, ← hy 3, ← hy 4, ← hy 5, ← hy 6, ← hy 7, ← hx 0, ← hx 1, ← hx 2, ← hx 3, ← hx 4, ← hx 5, ← hx 6, ← hx 7]
    rfl
  have k : ∀ a, x a ≤ y a ∧ -(x a) ≤ y a := fun a => by
    rw [← hy a]
    unfold ab
    omega
  rw [show 8 * m + C = 4 * (2 * m) + C by omega, show 8 * m + 4 + C = 4 * (2 * m + 1) + C by omega, show 32 + C = 4 * 8 + C by omega, hx, hx, hx, hy 8, e2]
  have k0 := k 0
  have k1 := k 1
  have k2 := k 2
  have k3 := k 3
  have k4 := k 4
  have k5 := k 5
  have k6 := k 6
  have k7 := k 7
  have k8 := k 8
  unfold ab
  have hh : m = 0 ∨ m = 1 ∨ m = 2 ∨ m = 3 := by omega
  rcases hh with rfl | rfl | rfl | rfl
  · simp only [Nat.reduceMul, Nat.reduceAdd]
    omega
  · simp only [Nat.reduceMul, Nat.reduceAdd]
    omega
  · simp only [Nat.reduceMul, Nat.reduceAdd]
    omega
  · simp only [Nat.reduceMul, Nat.reduceAdd]
    omega
theorem xa_le {N Q T M E : Int} {E' k g w : Nat} (n0 : 0 ≤ N) (hM : 0 ≤ M) (h1 : N ≤ T) (h2 : N ≤ Q) (S : S3 T M E (PW k)) (R : S4 Q M E g) (hE : 0 ≤ E) (hE' : E ≤ (E' : Int)) (hg : g ≤ 1 + w) (hw : w ≤ 2) : 25 * N + N * M ≤ ((tmA w E' k : Nat) : Int) := by
  obtain ⟨a1, a2, -, -⟩ := S
  obtain ⟨b1, b2⟩ := R
  have c1 := mul_le_r hM h1
  have c2 := mul_le_r hM h2
  have p1 := pw_1 k
  have d1 := mul_le_r (x := PW k) (by omega) hE'
  have hY : ((E' * 3 ^ k : Nat) : Int) = (E' : Int) * PW k := by
    unfold PW
    rw [Int.natCast_mul]
  have g1 : (g : Int) ≤ 1 + (w : Int) := by omega
  have d2 := mul_le_r (x := 2000000 + 2 * E) (by omega) g1
  have d3 := mul_le_r (x := 232000000 + 19998 * E) (by omega) g1
  unfold tmA
  refine le_mn ?_ ?_
  · generalize E' * 3 ^ k = Y at hY
    omega
  · have hh : w = 0 ∨ w = 1 ∨ w = 2 := by omega
    rcases hh with rfl | rfl | rfl <;> omega
theorem xb_le {N Q T M E h : Int} {E' k g : Nat} (n0 : 0 ≤ N) (hM : 0 ≤ M) (h1 : N ≤ T) (h2 : N ≤ Q) (h3 : 2 * N ≤ T + h) (S : S3 T M E (PW k)) (R : S4 Q M E g) (V : S5 h M (PW k) k) (hE : 0 ≤ E) (hE' : E ≤ (E' : Int)) (hg : g ≤ 4) : 5 * N + N * M ≤ ((tmB E' k : Nat) : Int) := by
  obtain ⟨a1, a2, a3, a4⟩ := S
  obtain ⟨b1, b2⟩ := R
  obtain ⟨v1, v2⟩ := V
  have c1 := mul_le_r hM h1
  have c2 := mul_le_r hM h2
  have c3 := mul_le_r hM h3
  have c4 : 2 * N * M = 2 * (N * M) := Int.mul_assoc _ _ _
  have c5 : (T + h) * M = T * M + h * M := Int.add_mul _ _ _
  have p1 := pw_1 k
  have d1 := mul_le_r (x := PW k) (by omega) hE'
  have hY : ((E' * 3 ^ k : Nat) : Int) = (E' : Int) * PW k := by
    unfold PW
    rw [Int.natCast_mul]
  have hZ : ((3 ^ k : Nat) : Int) = PW k := rfl
  have g1 : (g : Int) ≤ 4 := by omega
  have d2 := mul_le_r (x := 2000000 + 2 * E) (by omega) g1
  have d3 := mul_le_r (x := 232000000 + 19998 * E) (by omega) g1
  unfold tmB
  refine le_mn (le_mn ?_ ?_) ?_
  · generalize E' * 3 ^ k = Y at hY
    omega
  · omega
  · generalize 3 ^ k = Y at hZ
    omega
theorem bn_call {C U : Int} (H : BN q G M t) (ht : t ≤ 39) (hMg : MgR p q) (hla : ∀ c, c < 4 → 1 ≤ laI q c ∧ laI q c ≤ 9999) (hS : ∀ c, c < 3 → sFu (q.1 13 1) c 9 = 0) (hb : ∀ c, c < 3 → psF (q.1 13 1) c 9 ≤ 2000000000) (hm : m < 4) (h9 : q.1 15 9 m = cn 0) (C0 : 0 ≤ C) (C1 : C ≤ 100000000) (u1 : 0 ≤ U) (u2 : U ≤ 10000) : ∃ k : Int, 0 ≤ k ∧ k ≤ 2147483647 ∧ v2_callOf p (cn m) (cn C) (cn U) = cl k := by
  obtain ⟨⟨⟨-, -, -, p4, -⟩, m1, m2⟩, ⟨f1, f2, f3⟩, ⟨s1, s2⟩, s3, s4', -, ⟨s6, s6'⟩, s7, ⟨g1, g2, g3, g4⟩, s8⟩ := H
  have hgo : ¬ Gone q m := fun h => by
    have h1 := h.1
    rw [h9] at h1
    exact absurd h1 (by decide)
  have gnm : gn q m = 0 := if_neg hgo
  have gk : ∀ k, k < 4 → 1 ≤ gn q k + G (8 + k) ∧ gn q k ≤ 1 := fun k hk => by
    by_cases h : Gone q k
    · have e : gn q k = 1 := if_pos h
      omega
    · have e : gn q k = 0 := if_neg h
      have := g2 k hk h
      omega
  have hw : G (8 + m) ≤ 1 + G 6 ∧ G 6 + G 7 ≤ 3 := by
    have a0 := gk 0 (by decide)
    have a1 := gk 1 (by decide)
    have a2 := gk 2 (by decide)
    have a3 := gk 3 (by decide)
    simp only [Nat.reduceAdd] at a0 a1 a2 a3
    have hh : m = 0 ∨ m = 1 ∨ m = 2 ∨ m = 3 := by omega
    rcases hh with rfl | rfl | rfl | rfl <;> (simp only [Nat.reduceAdd]; omega)
  have hs39 : G 3 + G 4 ≤ 39 := by omega
  have hE0 : 0 ≤ EE q G := by
    unfold EE
    exact Int.mul_nonneg f1 (by omega)
  have hE : EE q G ≤ ((es (G 3 + G 4) : Nat) : Int) := by
    have h1 := es_ok (u := G 3) (v := G 4) hs39
    have h2 := mul_le_r (x := 1 + 2 * (G 4 : Int)) (by omega) (show (q.1 13 4 8).toInt ≤ 7 * (G 3 : Int) by omega)
    have h3 : 7 * (G 3 : Int) * (1 + 2 * (G 4 : Int)) = ((7 * (G 3 * (1 + 2 * G 4)) : Nat) : Int) := by
      rw [Int.natCast_mul, Int.natCast_mul, Int.natCast_add, Int.natCast_mul, Int.mul_assoc]
      rfl
    unfold EE
    omega
  obtain ⟨E', hE'⟩ : ∃ E', es (G 3 + G 4) = E' := ⟨_, rfl⟩
  obtain ⟨E, hEE⟩ : ∃ E, EE q G = E := ⟨_, rfl⟩
  rw [hE'] at hE
  rw [hEE] at hE hE0 s2
  obtain ⟨N, hN⟩ : ∃ N : Nat → Int, ∀ j, ab (Zn q m j) = N j := ⟨_, fun _ => rfl⟩
  obtain ⟨μ, hμ⟩ : ∃ μ : Nat → Int, ∀ j, μ j = if G (12 + j) = 0 then 0 else 20 := ⟨_, fun _ => rfl⟩
  have n0 : ∀ j, 0 ≤ N j := fun j => by
    rw [← hN j]
    unfold ab
    omega
  have μ0 : ∀ j, 0 ≤ μ j ∧ μ j ≤ 20 := fun j => by
    rw [hμ j]
    split <;> omega
  have hmv : ∀ s j, s < 4 → j < 4 → -(μ j) ≤ mvI q s j ∧ mvI q s j ≤ μ j := fun s j hs hj => by
    obtain ⟨a1, a2, a3⟩ := s6 s j hs hj
    rw [hμ j]
    by_cases e : G (12 + j) = 0
    · rw [if_pos e, a3 e]
      omega
    · rw [if_neg e]
      omega
  have nq : ∀ j, N j ≤ qs q m j := fun j => by
    rw [← hN j]
    unfold qs Zn ab
    omega
  have nT : ∀ j, N j ≤ psF (q.1 13 1) j 8 := fun j => by
    have h := psF_two (f := q.1 13 1) (c := j) (a := 2 * m) (b := 2 * m + 1) (by omega) 8 (by omega)
    rw [show 4 * (2 * m) + j = 8 * m + j by omega, show 4 * (2 * m + 1) + j = 8 * m + 4 + j by omega] at h
    have h2 := nq j
    unfold qs ab at h2
    omega
  have nH : ∀ j, j < 3 → 2 * N j ≤ psF (q.1 13 1) j 8 + hh q j := fun j hj => by
    have h := z_half (m := m) hm (sI_0 (hS j hj) (hb j hj))
    rw [← hN j]
    exact h
  have nM : ∀ j, j < 4 → -(Zn q m j * laI q j) ≤ N j * M j := fun j hj => by
    have h := (p4 j hj).1
    have h2 := hla j hj
    have h3 := m1 j hj
    rw [← hN j]
    exact ab_mul (by omega) (by unfold laI; exact h)
  have nμ : ∀ s j, s < 4 → j < 4 → -(Zn q m j * mvI q s j) ≤ N j * μ j := fun s j hs hj => by
    have h := hmv s j hs hj
    rw [← hN j]
    exact ab_mul h.1 h.2
  -- the last contract
  have x3 : N 3 * μ 3 + 5 * N 3 + N 3 * M 3 ≤ 141 * (E' : Int) := by
    have h1 := nT 3
    have h2 := mul_le_l (n0 3) (μ0 3).2
    rw [m2]
    omega
  obtain ⟨c1, hc1⟩ : ∃ c1, (q.2.1 14 1 (2 * m)).toInt = c1 := ⟨_, rfl⟩
  obtain ⟨c2, hc2⟩ : ∃ c2, (q.2.1 14 1 (2 * m + 1)).toInt = c2 := ⟨_, rfl⟩
  obtain ⟨k1, k2⟩ := s7 m hm h9
  rw [hc1, hEE] at k1
  rw [hc2, hEE] at k2
  unfold ab at k1 k2
  have hes : E' ≤ 100000 := by
    rw [← hE']
    unfold es
    have : (G 3 + G 4) * (G 3 + G 4 + 1) ≤ 39 * 40 := Nat.mul_le_mul hs39 (by omega)
    omega
  -- all contracts
  have tot : N 0 * μ 0 + 5 * N 0 + N 0 * M 0 + (N 1 * μ 1 + 5 * N 1 + N 1 * M 1) + (N 2 * μ 2 + 5 * N 2 + N 2 * M 2) + 141 * (E' : Int) + 40000 * ((E' : Int) + 40) + 200000 ≤ 2147483647 := by
    by_cases hw3 : G 6 ≤ 2
    · have xa : ∀ j, j < 3 → N j * μ j + 5 * N j + N j * M j ≤ ((tmA (G 6) E' (G j) : Nat) : Int) := fun j hj => by
        have hM := m1 j (by omega)
        have a1 := s1 j hj
        have a2 := s3 m j hm hj hgo
        rw [hEE] at a1 a2
        have h := xa_le (n0 j) (show 0 ≤ M j by omega) (nT j) (nq j) a1 a2 hE0 hE hw.1 hw3
        have h2 := mul_le_l (n0 j) (μ0 j).2
        omega
      have x0 := xa 0 (by decide)
      have x1 := xa 1 (by decide)
      have x2 := xa 2 (by decide)
      have hc : tmA (G 6) E' (G 0) + tmA (G 6) E' (G 1) + tmA (G 6) E' (G 2) + 141 * E' + 40000 * (E' + 40) + 200000 ≤ 2147483647 := by
        rw [← hE']
        have hh : G 6 = 0 ∨ G 6 = 1 ∨ G 6 = 2 := by omega
        rcases hh with h | h | h
        · rw [h]
          exact cqA_use cqA_0 (by omega)
        · rw [h]
          exact cqA_use cqA_1 (by omega)
        · rw [h]
          exact cqA_use cqA_2 (by omega)
      omega
    · have h7 : G 7 = 0 := by omega
      have xb : ∀ j, j < 3 → 5 * N j + N j * M j ≤ ((tmB E' (G j) : Nat) : Int) ∧ N j ≤ 8000000 + 8 * (E' : Int) := fun j hj => by
        have hM := m1 j (by omega)
        have a1 := s1 j hj
        have a2 := s3 m j hm hj hgo
        have a3 := s4' h7 j hj
        rw [hEE] at a1 a2
        refine ⟨xb_le (n0 j) (show 0 ≤ M j by omega) (nT j) (nq j) (nH j hj) a1 a2 a3 hE0 hE (by omega), ?_⟩
        have b := a2.1
        have g4' : (G (8 + m) : Int) ≤ 4 := by omega
        have b2 := mul_le_r (x := 2000000 + 2 * E) (by omega) g4'
        have b3 := nq j
        omega
      obtain ⟨v, hv⟩ : ∃ v, v = (if G 12 = 0 then 0 else 1) + (if G 13 = 0 then 0 else 1) + (if G 14 = 0 then 0 else 1) := ⟨_, rfl⟩
      have hv3 : v ≤ 3 ∧ v ≤ G 5 := by
        rw [hv]
        refine ⟨?_, ?_⟩ <;> (split <;> split <;> split <;> omega)
      have mu : ∀ j, j < 3 → N j * μ j ≤ ((if G (12 + j) = 0 then 0 else 1 : Nat) : Int) * (20 * (8000000 + 8 * (E' : Int))) := fun j hj => by
        have b := (xb j hj).2
        rw [hμ j]
        by_cases e : G (12 + j) = 0
        · rw [if_pos e, if_pos e, Int.mul_zero]
          have z : ((0 : Nat) : Int) * (20 * (8000000 + 8 * (E' : Int))) = 0 := Int.zero_mul _
          omega
        · rw [if_neg e, if_neg e]
          have z : ((1 : Nat) : Int) * (20 * (8000000 + 8 * (E' : Int))) = 20 * (8000000 + 8 * (E' : Int)) := Int.one_mul _
          omega
      have x0 := (xb 0 (by decide)).1
      have x1 := (xb 1 (by decide)).1
      have x2 := (xb 2 (by decide)).1
      have y0 := mu 0 (by decide)
      have y1 := mu 1 (by decide)
      have y2 := mu 2 (by decide)
      simp only [Nat.reduceAdd] at y0 y1 y2
      have hsum : N 0 * μ 0 + N 1 * μ 1 + N 2 * μ 2 ≤ (v : Int) * (20 * (8000000 + 8 * (E' : Int))) := by
        have e1 : (v : Int) = ((if G 12 = 0 then 0 else 1 : Nat) : Int) + ((if G 13 = 0 then 0 else 1 : Nat) : Int) + ((if G 14 = 0 then 0 else 1 : Nat) : Int) := by
          rw [hv]
          rfl
        rw [e1, Int.add_mul, Int.add_mul]
        omega
      have hc := cqB_use (s := G 3 + G 4) (v := v) (k1 := G 0) (k2 := G 1) (k3 := G 2) hv3.1 (by omega)
      rw [hE'] at hc
      have e2 : ((v * (20 * (8000000 + 8 * E')) : Nat) : Int) = (v : Int) * (20 * (8000000 + 8 * (E' : Int))) := by
        rw [Int.natCast_mul]
        rfl
      generalize v * (20 * (8000000 + 8 * E')) = Y at hc e2
      omega
  have sE : ∀ f : Nat → Int, sa f 0 4 = f 0 + (f 1 + (f 2 + (f 3 + 0))) := fun f => rfl
  have q0 := mul_le_l (n0 0) (μ0 0).1
  have q1 := mul_le_l (n0 1) (μ0 1).1
  have q2 := mul_le_l (n0 2) (μ0 2).1
  have q3 := mul_le_l (n0 3) (μ0 3).1
  rw [Int.mul_zero] at q0 q1 q2 q3
  have z0 := mul_le_l (n0 0) (show 0 ≤ M 0 by have := m1 0 (by decide); omega)
  have z1 := mul_le_l (n0 1) (show 0 ≤ M 1 by have := m1 1 (by decide); omega)
  have z2 := mul_le_l (n0 2) (show 0 ≤ M 2 by have := m1 2 (by decide); omega)
  have z3 := mul_le_l (n0 3) (show 0 ≤ M 3 by have := m1 3 (by decide); omega)
  rw [Int.mul_zero] at z0 z1 z2 z3
  have w0 := n0 0
  have w1 := n0 1
  have w2 := n0 2
  have w3 := n0 3
  refine call_b (B := 20 * U + (N 0 * μ 0 + N 1 * μ 1 + N 2 * μ 2 + N 3 * μ 3)) (c1 := c1) (c2 := c2) (K := 2147483647) hm hMg C0 C1 u1 (by omega) (fun s c hs hc => by have := s6 s c hs hc; omega) (fun c hc => by have := hla c hc; omega) (by have := hla 1 (by decide); omega) (fun s hs => ?_) (by omega) (by omega) (by rw [← hc1]; exact cl_of _) (by rw [← hc2]; exact cl_of _) (by omega) (by omega) ?_ (by decide)
  · rw [sE]
    have a0 := nμ s 0 hs (by decide)
    have a1 := nμ s 1 hs (by decide)
    have a2 := nμ s 2 hs (by decide)
    have a3 := nμ s 3 hs (by decide)
    have b := s6 s 1 hs (by decide)
    have c := mul_le_l u1 (show -(mvI q s 1) ≤ 20 by omega)
    rw [Int.mul_neg] at c
    omega
  · rw [sE, sE]
    have a0 := nM 0 (by decide)
    have a1 := nM 1 (by decide)
    have a2 := nM 2 (by decide)
    have a3 := nM 3 (by decide)
    rw [hN 0, hN 1, hN 2, hN 3]
    omega
end BnK
