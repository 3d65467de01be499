/-! a loss is covered: what both have in common, layer by layer -/
/-- what the reference does with an amount -/
noncomputable def cvQ (q : PM) (m : Nat) (lay : Int32) (l g : Int) : PM := pJ (pJ (if 0 < g then pI q 12 1 68 lay else q) 14 1 (2 * m) (q.2.1 14 1 (2 * m) + cl g)) 12 1 69 (cl (if g < l then l - g else 0))
def CV (p0 q0 : PM) (B : Int) (m : Nat) (p q : PM) (l e : Int) : Prop :=
  ((∀ K, ¬ K = 2 → ¬ K = 9 → p.1 K = p0.1 K) ∧ (∀ i S, (S = 3 ∨ S = 4 ∨ S = 5 ∨ S = 6) → p.1 9 i S = p0.1 9 i S) ∧ (∀ S, ¬ S = 5 → ¬ S = 8 → p.1 2 1 S = p0.1 2 1 S) ∧ p.2.2 = p0.2.2) ∧
  ((∀ K, (K < 36 ∨ 38 < K) → q.1 13 K = q0.1 13 K) ∧ q.1 15 = q0.1 15 ∧ (∀ S, ¬ S = 58 → ¬ S = 68 → q.1 12 1 S = q0.1 12 1 S)) ∧
  (∀ k, k < 4 → (∃ z : Int, 0 ≤ z ∧ z ≤ 9999 ∧ p.1 9 (k + 1) 2 = cn z ∧ q.1 13 38 k = cn z) ∧ (∃ z z0 : Int, 0 ≤ z ∧ z ≤ z0 ∧ z0 ≤ 10000000 ∧ q0.1 13 36 k = cn z0 ∧ p.1 9 (k + 1) 0 = cn z ∧ q.1 13 36 k = cn z) ∧ (∃ z z0 : Int, 0 ≤ z ∧ z ≤ z0 ∧ z0 ≤ 100000 ∧ q0.1 13 37 k = cn z0 ∧ p.1 9 (k + 1) 1 = cn z ∧ q.1 13 37 k = cn z)) ∧
  (∃ z : Int, 0 ≤ z ∧ z ≤ 500 ∧ p.1 2 1 5 = cn z ∧ q.1 12 1 58 = cn z) ∧
  ((∀ a, a < 9 → ¬ a = 2 * m → p.2.1 0 (a + 1) 4 = q.2.1 14 1 a) ∧ p.2.1 0 (2 * m + 1) 4 = cl e ∧ q.2.1 14 1 (2 * m) = cl (e - l)) ∧
  (p.2.1 2 1 7 = cl l ∧ q.2.1 12 1 69 = cl l ∧ p.1 2 1 8 = q.1 12 1 68) ∧
  (0 ≤ l ∧ l ≤ 9000000000000000000) ∧ (0 ≤ e ∧ e ≤ 9000000000000000000) ∧ csF (q.2.1 14 1) 9 ≤ B + max (e - l) (l - e)
section Cover
variable {p0 q0 p q : PM} {B l e g : Int} {m : Nat} {lay : Int32}
theorem g_cov {v1 v4 : Int32} {v2 : Int64} (h : inb (cn 2 * v4) 9) : g12_covers q v1 v2 v4 := by
  unfold g12_covers bg12_covers
  repeat' first
    | with_reducible exact h
    | exact trivial
    | exact not_false
    | apply And.intro
    | (split <;> rename_i h9 <;> first | simp only [if_neg h9, if_true, if_false] | simp only [if_pos h9, if_true, if_false] | skip)
theorem cov_e (hm : m < 4) (hl : q.2.1 12 1 69 = cl l) (l0 : 0 ≤ l) (l1 : l ≤ 9000000000000000000) (g0 : 0 ≤ g) (g1 : g ≤ 9000000000000000000) : v12_covers q lay (cl g) (cn m) = cvQ q m lay l g ∧ g12_covers q lay (cl g) (cn m) := by
  have i9 := cninb (i := 2 * m) (n := 9) (by omega) (by omega)
  have c1 : (cl 0 < cl g) = (0 < g) := cllt (by decide) ⟨by omega, by omega⟩
  have c2 : (cl g < cl l) = (g < l) := cllt ⟨by omega, by omega⟩ ⟨by omega, by omega⟩
  refine ⟨?_, g_cov (by rw [two_m]; exact i9)⟩
  unfold v12_covers bv12_covers cvQ
  by_cases h : 0 < g
  · have e1 : (pJ (pI q 12 1 68 lay) 14 1 (2 * m) ((pI q 12 1 68 lay).2.1 14 1 (2 * m) + cl g)).2.1 12 1 69 = cl l := by
      rw [pJ_J, u3_k (by decide), pI_J]
      exact hl
    simp only [lg_lt0, c1, if_pos h, two_m, cntk (i := 2 * m) (by omega), e1, c2, clsub]
    by_cases h2 : g < l
    · simp only [if_pos h2]
      rfl
    · simp only [if_neg h2]
      rfl
  · have e1 : (pJ (pI q 12 1 68 (q.1 12 1 68)) 14 1 (2 * m) ((pI q 12 1 68 (q.1 12 1 68)).2.1 14 1 (2 * m) + cl g)).2.1 12 1 69 = cl l := by
      rw [pJ_J, u3_k (by decide), pI_J]
      exact hl
    rw [pI_id] at e1
    simp only [lg_lt0, c1, if_neg h, two_m, cntk (i := 2 * m) (by omega), pI_id, e1, c2, clsub]
    by_cases h2 : g < l
    · simp only [if_pos h2]
    · simp only [if_neg h2]
theorem upTo_e {v : Int} (hl : q.2.1 12 1 69 = cl l) (l0 : 0 ≤ l) (l1 : l ≤ 9000000000000000000) (v0 : 0 ≤ v) (v1 : v ≤ 9000000000000000000) : v12_upTo q (cl v) = cl (if v < l then v else l) ∧ g12_upTo q (cl v) := by
  unfold v12_upTo bv12_upTo g12_upTo bg12_upTo
  simp only [hl, lg_gt0, cllt (a := v) (b := l) ⟨by omega, by omega⟩ ⟨by omega, by omega⟩]
  refine ⟨?_, ?_⟩
  · split <;> rfl
  · split <;> trivial
theorem cvQ_1 {K i S : Nat} (h : ¬ (K = 12 ∧ i = 1 ∧ S = 68)) : (cvQ q m lay l g).1 K i S = q.1 K i S := by
  unfold cvQ
  rw [pJ_1, pJ_1]
  split
  · rw [pI_1, u3_ne h]
  · rfl
theorem cvQ_68 : (cvQ q m lay l g).1 12 1 68 = if 0 < g then lay else q.1 12 1 68 := by
  unfold cvQ
  rw [pJ_1, pJ_1]
  by_cases h : 0 < g
  · rw [if_pos h, if_pos h, pI_at]
  · rw [if_neg h, if_neg h]
theorem cvQ_J {a : Nat} (h : ¬ a = 2 * m) : (cvQ q m lay l g).2.1 14 1 a = q.2.1 14 1 a := by
  unfold cvQ
  rw [pJ_J, u3_k (by decide), pJ_J, u3_s h]
  split
  · rw [pI_J]
  · rfl
theorem cvQ_m : (cvQ q m lay l g).2.1 14 1 (2 * m) = q.2.1 14 1 (2 * m) + cl g := by
  unfold cvQ
  rw [pJ_J, u3_k (by decide), pJ_J, u3_same]
theorem cvQ_l : (cvQ q m lay l g).2.1 12 1 69 = cl (if g < l then l - g else 0) := by
  unfold cvQ
  rw [pJ_J, u3_same]
theorem cvQ_pI {K i S : Nat} {v : Int32} (h : ¬ (K = 12 ∧ i = 1 ∧ S = 68)) : cvQ (pI q K i S v) m lay l g = pI (cvQ q m lay l g) K i S v := by
  unfold cvQ
  by_cases h2 : 0 < g
  · rw [if_pos h2, if_pos h2, pI_comm h, pI_J]
    rfl
  · rw [if_neg h2, if_neg h2, pI_J]
    rfl
theorem gvC_1 {K i S : Nat} (h : ¬ (K = 2 ∧ i = 1 ∧ S = 8)) : (gvC p lay l g).1 K i S = p.1 K i S := by
  unfold gvC
  split
  · rw [pI_1, u3_ne h, pJ_1]
  · rfl
theorem gvC_8 : (gvC p lay l g).1 2 1 8 = if 0 < g then lay else p.1 2 1 8 := by
  unfold gvC
  by_cases h : 0 < g
  · rw [if_pos h, if_pos h, pI_at]
  · rw [if_neg h, if_neg h]
theorem gvC_J {K i S : Nat} (h : ¬ (K = 2 ∧ i = 1 ∧ S = 7)) : (gvC p lay l g).2.1 K i S = p.2.1 K i S := by
  unfold gvC
  split
  · rw [pI_J, pJ_J, u3_ne h]
  · rfl
theorem gvC_7 (hl : p.2.1 2 1 7 = cl l) (g0 : 0 ≤ g) : (gvC p lay l g).2.1 2 1 7 = cl (l - g) := by
  unfold gvC
  by_cases h : 0 < g
  · rw [if_pos h, pI_J, pJ_J, u3_same]
  · rw [if_neg h, hl]
    congr 1
    omega
theorem gvC_R : (gvC p lay l g).2.2 = p.2.2 := by
  unfold gvC
  split
  · rw [pI_R, pJ_R]
  · rfl
theorem cs_set {f g : Nat → Int64} {a : Nat} (h : ∀ k, ¬ k = a → g k = f k) : ∀ n, csF g n = csF f n + (if a < n then max (g a).toInt (-(g a).toInt) - max (f a).toInt (-(f a).toInt) else 0)
  | 0 => rfl
  | n + 1 => by
    have ih := cs_set h n
    show csF g n + max (g n).toInt (-(g n).toInt) = csF f n + max (f n).toInt (-(f n).toInt) + _
    by_cases e : n = a
    · subst e
      rw [if_neg (by omega)] at ih
      rw [if_pos (by omega)]
      omega
    · rw [h n e]
      by_cases e2 : a < n
      · rw [if_pos e2] at ih
        rw [if_pos (by omega)]
        omega
      · rw [if_neg e2] at ih
        rw [if_neg (by omega)]
        omega
/-- an amount within the loss is given -/
theorem cv_give (hm : m < 4) (H : CV p0 q0 B m p q l e) (g0 : 0 ≤ g) (g1 : g ≤ l) : CV p0 q0 B m (gvC p lay l g) (cvQ q m lay l g) (l - g) e := by
  obtain ⟨⟨a1, a2, a3, a4⟩, ⟨b1', b2', b3'⟩, c1, c2, ⟨d1, d2, d3⟩, ⟨f1, f2, f3⟩, ⟨l0, l1⟩, ⟨e0, e1⟩, hB⟩ := H
  refine ⟨⟨fun K h h' => ?_, fun i S h => ?_, fun S h h' => ?_, ?_⟩, ⟨fun K h => ?_, ?_, fun S h h' => ?_⟩, fun k hk => ?_, ?_, ⟨fun a ha h => ?_, ?_, ?_⟩, ⟨gvC_7 f1 g0, ?_, ?_⟩, ⟨by omega, by omega⟩, ⟨e0, e1⟩, ?_⟩
  · rw [← a1 K h h']
    funext i S
    exact gvC_1 (by omega)
  · rw [gvC_1 (by omega)]
    exact a2 i S h
  · rw [gvC_1 (by omega)]
    exact a3 S h h'
  · rw [gvC_R]
    exact a4
  · rw [← b1' K h]
    funext i
    exact cvQ_1 (by omega)
  · rw [← b2']
    funext i S
    exact cvQ_1 (by omega)
  · rw [cvQ_1 (by omega)]
    exact b3' S h h'
  · rw [gvC_1 (by omega), gvC_1 (by omega), gvC_1 (by omega), cvQ_1 (by omega), cvQ_1 (by omega), cvQ_1 (by omega)]
    exact c1 k hk
  · rw [gvC_1 (by omega), cvQ_1 (by omega)]
    exact c2
  · rw [gvC_J (by omega), cvQ_J h]
    exact d1 a ha h
  · rw [gvC_J (by omega)]
    exact d2
  · rw [cvQ_m, d3, cladd]
    congr 1
    omega
  · rw [cvQ_l]
    congr 1
    split <;> omega
  · rw [gvC_8, cvQ_68, f3]
  · have h := cs_set (f := q.2.1 14 1) (g := (cvQ q m lay l g).2.1 14 1) (a := 2 * m) (fun k hk => cvQ_J hk) 9
    rw [if_pos (by omega), cvQ_m, d3, cladd, cl_I (a := e - l + g) ⟨by omega, by omega⟩, cl_I (a := e - l) ⟨by omega, by omega⟩] at h
    omega
/-- members give: money, units, funds, and the stake -/
theorem cv_money {z z' : Int} (hm : m < 4) (H : CV p0 q0 B m p q l e) (hz : q.1 13 36 m = cn z) (z0 : 0 ≤ z') (z1 : z' ≤ z) (z2 : z ≤ 10000000) : CV p0 q0 B m (pI p 9 (m + 1) 0 (cn z')) (pI q 13 36 m (cn z')) l e := by
  obtain ⟨⟨a1, a2, a3, a4⟩, ⟨b1', b2', b3'⟩, c1, c2, ⟨d1, d2, d3⟩, ⟨f1, f2, f3⟩, h1, h2, hB⟩ := H
  refine ⟨⟨fun K h h' => ?_, fun i S h => ?_, fun S h h' => ?_, a4⟩, ⟨fun K h => ?_, ?_, fun S h h' => ?_⟩, fun k hk => ?_, ?_, ⟨d1, d2, d3⟩, ⟨f1, f2, ?_⟩, h1, h2, hB⟩
  · rw [← a1 K h h']
    funext i S
    rw [pI_1, u3_k h']
  · rw [pI_1, u3_s (by omega)]
    exact a2 i S h
  · rw [pI_1, u3_k (by decide)]
    exact a3 S h h'
  · rw [← b1' K h]
    funext i
    rw [pI_1, u3_i (by omega)]
  · rw [← b2']
    funext i S
    rw [pI_1, u3_k (by decide)]
  · rw [pI_1, u3_k (by decide)]
    exact b3' S h h'
  · obtain ⟨x1, ⟨y, y0, y1, y2, y3, y4, y5, y6⟩, x3⟩ := c1 k hk
    have e1 : ∀ S, ¬ S = 0 → (pI p 9 (m + 1) 0 (cn z')).1 9 (k + 1) S = p.1 9 (k + 1) S := fun S h => by rw [pI_1, u3_s h]
    have e2 : ∀ K, ¬ K = 36 → (pI q 13 36 m (cn z')).1 13 K k = q.1 13 K k := fun K h => by rw [pI_1, u3_i h]
    rw [e1 1 (by decide), e1 2 (by decide), e2 37 (by decide), e2 38 (by decide)]
    refine ⟨x1, ?_, x3⟩
    by_cases ek : k = m
    · rw [ek] at y4 y6 ⊢
      rw [hz, cneq ⟨by omega, by omega⟩ ⟨by omega, by omega⟩] at y6
      exact ⟨z', y0, z0, by omega, y3, y4, pI_at, pI_at⟩
    · rw [pI_1, u3_i (by omega), pI_1, u3_s ek]
      exact ⟨y, y0, y1, y2, y3, y4, y5, y6⟩
  · rw [pI_1, u3_k (by decide), pI_1, u3_k (by decide)]
    exact c2
  · rw [pI_1, u3_k (by decide), pI_1, u3_k (by decide)]
    exact f3
theorem cv_units {z z' : Int} (hm : m < 4) (H : CV p0 q0 B m p q l e) (hz : q.1 13 37 m = cn z) (z0 : 0 ≤ z') (z1 : z' ≤ z) (z2 : z ≤ 100000) : CV p0 q0 B m (pI p 9 (m + 1) 1 (cn z')) (pI q 13 37 m (cn z')) l e := by
  obtain ⟨⟨a1, a2, a3, a4⟩, ⟨b1', b2', b3'⟩, c1, c2, ⟨d1, d2, d3⟩, ⟨f1, f2, f3⟩, h1, h2, hB⟩ := H
  refine ⟨⟨fun K h h' => ?_, fun i S h => ?_, fun S h h' => ?_, a4⟩, ⟨fun K h => ?_, ?_, fun S h h' => ?_⟩, fun k hk => ?_, ?_, ⟨d1, d2, d3⟩, ⟨f1, f2, ?_⟩, h1, h2, hB⟩
  · rw [← a1 K h h']
    funext i S
    rw [pI_1, u3_k h']
  · rw [pI_1, u3_s (by omega)]
    exact a2 i S h
  · rw [pI_1, u3_k (by decide)]
    exact a3 S h h'
  · rw [← b1' K h]
    funext i
    rw [pI_1, u3_i (by omega)]
  · rw [← b2']
    funext i S
    rw [pI_1, u3_k (by decide)]
  · rw [pI_1, u3_k (by decide)]
    exact b3' S h h'
  · obtain ⟨x1, x2, ⟨y, y0, y1, y2, y3, y4, y5, y6⟩⟩ := c1 k hk
    have e1 : ∀ S, ¬ S = 1 → (pI p 9 (m + 1) 1 (cn z')).1 9 (k + 1) S = p.1 9 (k + 1) S := fun S h => by rw [pI_1, u3_s h]
    have e2 : ∀ K, ¬ K = 37 → (pI q 13 37 m (cn z')).1 13 K k = q.1 13 K k := fun K h => by rw [pI_1, u3_i h]
    rw [e1 0 (by decide), e1 2 (by decide), e2 36 (by decide), e2 38 (by decide)]
    refine ⟨x1, x2, ?_⟩
    by_cases ek : k = m
    · rw [ek] at y4 y6 ⊢
      rw [hz, cneq ⟨by omega, by omega⟩ ⟨by omega, by omega⟩] at y6
      exact ⟨z', y0, z0, by omega, y3, y4, pI_at, pI_at⟩
    · rw [pI_1, u3_i (by omega), pI_1, u3_s ek]
      exact ⟨y, y0, y1, y2, y3, y4, y5, y6⟩
  · rw [pI_1, u3_k (by decide), pI_1, u3_k (by decide)]
    exact c2
  · rw [pI_1, u3_k (by decide), pI_1, u3_k (by decide)]
    exact f3
theorem cv_fund {z' : Int} {j : Nat} (H : CV p0 q0 B m p q l e) (z0 : 0 ≤ z') (z1 : z' ≤ 9999) : CV p0 q0 B m (pI p 9 (j + 1) 2 (cn z')) (pI q 13 38 j (cn z')) l e := by
  obtain ⟨⟨a1, a2, a3, a4⟩, ⟨b1', b2', b3'⟩, c1, c2, ⟨d1, d2, d3⟩, ⟨f1, f2, f3⟩, h1, h2, hB⟩ := H
  refine ⟨⟨fun K h h' => ?_, fun i S h => ?_, fun S h h' => ?_, a4⟩, ⟨fun K h => ?_, ?_, fun S h h' => ?_⟩, fun k hk => ?_, ?_, ⟨d1, d2, d3⟩, ⟨f1, f2, ?_⟩, h1, h2, hB⟩
  · rw [← a1 K h h']
    funext i S
    rw [pI_1, u3_k h']
  · rw [pI_1, u3_s (by omega)]
    exact a2 i S h
  · rw [pI_1, u3_k (by decide)]
    exact a3 S h h'
  · rw [← b1' K h]
    funext i
    rw [pI_1, u3_i (by omega)]
  · rw [← b2']
    funext i S
    rw [pI_1, u3_k (by decide)]
  · rw [pI_1, u3_k (by decide)]
    exact b3' S h h'
  · obtain ⟨x1, x2, x3⟩ := c1 k hk
    have e1 : ∀ S, ¬ S = 2 → (pI p 9 (j + 1) 2 (cn z')).1 9 (k + 1) S = p.1 9 (k + 1) S := fun S h => by rw [pI_1, u3_s h]
    have e2 : ∀ K, ¬ K = 38 → (pI q 13 38 j (cn z')).1 13 K k = q.1 13 K k := fun K h => by rw [pI_1, u3_i h]
    rw [e1 0 (by decide), e1 1 (by decide), e2 36 (by decide), e2 37 (by decide)]
    refine ⟨?_, x2, x3⟩
    by_cases ek : k = j
    · rw [ek]
      exact ⟨z', z0, z1, pI_at, pI_at⟩
    · rw [pI_1, u3_i (by omega), pI_1, u3_s ek]
      exact x1
  · rw [pI_1, u3_k (by decide), pI_1, u3_k (by decide)]
    exact c2
  · rw [pI_1, u3_k (by decide), pI_1, u3_k (by decide)]
    exact f3
theorem cv_stake {z' : Int} (H : CV p0 q0 B m p q l e) (z0 : 0 ≤ z') (z1 : z' ≤ 500) : CV p0 q0 B m (pI p 2 1 5 (cn z')) (pI q 12 1 58 (cn z')) l e := by
  obtain ⟨⟨a1, a2, a3, a4⟩, ⟨b1', b2', b3'⟩, c1, c2, ⟨d1, d2, d3⟩, ⟨f1, f2, f3⟩, h1, h2, hB⟩ := H
  refine ⟨⟨fun K h h' => ?_, fun i S h => ?_, fun S h h' => ?_, a4⟩, ⟨fun K h => ?_, ?_, fun S h h' => ?_⟩, fun k hk => ?_, ⟨z', z0, z1, pI_at, pI_at⟩, ⟨d1, d2, d3⟩, ⟨f1, f2, ?_⟩, h1, h2, hB⟩
  · rw [← a1 K h h']
    funext i S
    rw [pI_1, u3_k h]
  · rw [pI_1, u3_k (by decide)]
    exact a2 i S h
  · rw [pI_1, u3_s h]
    exact a3 S h h'
  · rw [← b1' K h]
    funext i
    rw [pI_1, u3_k (by decide)]
  · rw [← b2']
    funext i S
    rw [pI_1, u3_k (by decide)]
  · rw [pI_1, u3_s h]
    exact b3' S h h'
  · have x1 : (pI p 2 1 5 (cn z')).1 9 = p.1 9 := by
      funext i S
      rw [pI_1, u3_k (by decide)]
    have x2 : (pI q 12 1 58 (cn z')).1 13 = q.1 13 := by
      funext i S
      rw [pI_1, u3_k (by decide)]
    rw [x1, x2]
    exact c1 k hk
  · rw [pI_1, u3_s (by decide), pI_1, u3_s (by decide)]
    exact f3
end Cover
