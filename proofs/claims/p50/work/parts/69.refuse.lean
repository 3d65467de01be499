/-! whether an order is refused -/
theorem idx4 {a c : Nat} : cn 4 * cn (a : Int) + cn (c : Int) = cn ((4 * a + c : Nat) : Int) := by
  rw [cnmul, cnadd]
  exact congrArg cn (by omega)
theorem half {a : Nat} (h : a ≤ 2147483647) : cn (a : Int) / cn 2 = cn ((a / 2 : Nat) : Int) := by
  rw [cndiv ⟨by omega, by omega⟩ (by decide) (by decide)]
  rfl
theorem lg_lt0 (x y : Int64) : (0 < lg_cmp x y) = (y < x) := propext (lg_cmp_gt x y)
theorem lg_gt0 (x y : Int64) : (lg_cmp x y < 0) = (x < y) := propext (lg_cmp_lt x y)
theorem lg_eq0 (x y : Int64) : (lg_cmp x y = 0) = (x = y) := propext (lg_cmp_eq x y)
theorem over_eq {p q : PM} {x y a C : Nat} {N : Int} {t : Int32} (ha : a < 8) (hC : C < 4) (H : OR p q x y) (hK : CK p) (hA : AR p q) (hP : PB q) (h1 : 1 ≤ N) (h2 : N ≤ 50) : (g6_reach p (a + 1) (cn C) t ∧ g12_isOver q (cn a) (cn C) t (cn N)) ∧ (0 < lg_cmp (v6_reach p (a + 1) (cn C) t + (cn N).toInt64) (v0_limitOf p (a + 1) (cn C)).toInt64) = ¬ v12_isOver q (cn a) (cn C) t (cn N) = 0 := by
  obtain ⟨z, z1, z2, z3⟩ := hP (4 * a + C) (by omega)
  obtain ⟨l, l1, l2, l3, l4⟩ := (hA.2 a ha).1 C hC
  have hh := (hA.1 a (by omega)).1 C hC
  have gh := g_holds p (a := a) (c := C) (by omega) hC
  have hz : ¬ a + 1 = 0 := by omega
  have i36 := cninb (i := 4 * a + C) (n := 36) (by omega) (by omega)
  have i32 := cninb (i := 4 * a + C) (n := 32) (by omega) (by omega)
  have el : v0_limitOf p (a + 1) (cn C) = cn l := by rw [limitOf_e p (a + 1) hC, l3]
  have eh : v0_holds p (a + 1) (cn C) = cn z := by rw [holds_e p (a + 1) hC, hh, z3]
  have k := fun base => reach_loop (t := t) (base := base) ha hC H hK 40 0 FU FU 0 rfl (by decide) (by decide) (by decide) (by decide)
  simp only [show ((0 : Nat) : Int) = 0 from rfl] at k
  have e0 : ∀ b : Int, cl b + cl 0 = cl b := fun b => by rw [cladd, Int.add_zero]
  by_cases ht : t = 0
  · have k1 := k (cl (-z))
    rw [e0] at k1
    obtain ⟨⟨g1, g2⟩, S, s1, s2, s3, s4⟩ := k1
    have en : (-cn z).toInt64 = cl (-z) := by rw [cnneg, cn64 ⟨by omega, by omega⟩]
    have ev : v6_reach p (a + 1) (cn C) t = cl (-z) + cl S := by
      unfold v6_reach bv6_reach
      simp only [if_pos ht, eh, en]
      exact s3
    have er : v12_restsOf q (cn a) (cn C) t = cn S := s4
    have gr : g12_restsOf q (cn a) (cn C) t := g2
    refine ⟨⟨?_, ?_⟩, ?_⟩
    · unfold g6_reach bg6_reach
      simp only [if_pos ht, eh, en]
      exact ⟨hz, gh, g1⟩
    · unfold g12_isOver bg12_isOver
      simp only [idx4, if_pos ht]
      refine ⟨i36, gr, i32, ?_⟩
      split <;> trivial
    · rw [ev, el]
      unfold v12_isOver bv12_isOver
      simp only [idx4, if_pos ht, cntk (i := 4 * a + C) (by omega), z3, l4, er, lg_lt0, cn64 (show rg z from ⟨by omega, by omega⟩), cn64 (show rg S from ⟨by omega, by omega⟩), clneg, ite_z, cn1F, cn0T]
      refine propext ⟨fun h => by rw [if_pos h]; exact not_false, fun h => ?_⟩
      by_cases h9 : (cn l).toInt64 < cl (-z) + cl S + (cn N).toInt64
      · exact h9
      · rw [if_neg h9] at h
        exact absurd trivial h
  · have k1 := k (cl z)
    rw [e0] at k1
    obtain ⟨⟨g1, g2⟩, S, s1, s2, s3, s4⟩ := k1
    have en : (cn z).toInt64 = cl z := by rw [cn64 ⟨by omega, by omega⟩]
    have ev : v6_reach p (a + 1) (cn C) t = cl z + cl S := by
      unfold v6_reach bv6_reach
      simp only [if_neg ht, eh, en]
      exact s3
    have er : v12_restsOf q (cn a) (cn C) t = cn S := s4
    have gr : g12_restsOf q (cn a) (cn C) t := g2
    refine ⟨⟨?_, ?_⟩, ?_⟩
    · unfold g6_reach bg6_reach
      simp only [if_neg ht, eh, en]
      exact ⟨hz, gh, g1⟩
    · unfold g12_isOver bg12_isOver
      simp only [idx4, if_neg ht]
      refine ⟨i36, gr, i32, ?_⟩
      split <;> trivial
    · rw [ev, el]
      unfold v12_isOver bv12_isOver
      simp only [idx4, if_neg ht, cntk (i := 4 * a + C) (by omega), z3, l4, er, lg_lt0, en, cn64 (show rg S from ⟨by omega, by omega⟩), ite_z, cn1F, cn0T]
      refine propext ⟨fun h => by rw [if_pos h]; exact not_false, fun h => ?_⟩
      by_cases h9 : (cn l).toInt64 < cl z + cl S + (cn N).toInt64
      · exact h9
      · rw [if_neg h9] at h
        exact absurd trivial h
theorem spread_e {p : PM} {b : Nat} (hb : b < 6) (hK : CK p) : v1_isSpread p (b + 1) = if b < 4 then cn 0 else cn 1 := by
  unfold v1_isSpread bv1_isSpread
  rw [(hK.2 b hb).2.2]
  by_cases h4 : b < 4
  · rw [if_pos h4, if_pos rfl, if_pos h4]
  · rw [if_neg h4, if_neg h4, if_neg]
    rw [cneq ⟨by omega, by omega⟩ ⟨by omega, by omega⟩]
    omega
theorem g_spread (p : PM) (b : Nat) : g1_isSpread p (b + 1) := by
  have h : ¬ b + 1 = 0 := by omega
  unfold g1_isSpread bg1_isSpread
  repeat' first
    | with_reducible exact h
    | exact trivial
    | exact not_false
    | apply And.intro
    | (split <;> rename_i h9 <;> first | simp only [if_neg h9, if_true, if_false] | simp only [if_pos h9, if_true, if_false] | skip)
theorem absQ_e (q : PM) {Q : Int} (h1 : -50 ≤ Q) (h2 : Q ≤ 50) : v12_abs q (cn Q) = cn Q.natAbs := by
  unfold v12_abs bv12_abs
  simp only [zcn, cnlt (show rg Q from ⟨by omega, by omega⟩) (show rg 0 from ⟨by omega, by omega⟩), cnneg]
  by_cases h : Q < 0
  · rw [if_pos h]
    exact congrArg cn (by omega)
  · rw [if_neg h]
    exact congrArg cn (by omega)
theorem refuse_eq {p q : PM} {x y a b : Nat} {Q : Int} (ha : a < 8) (hb : b < 6) (H : OR p q x y) (hK : CK p) (hA : AR p q) (hP : PB q) (h1 : -50 ≤ Q) (h2 : Q ≤ 50) (h3 : ¬ Q = 0) : (g6_refuses p (a + 1) (b + 1) (cn Q) ∧ g12_isRefused q (cn a) (cn b) (cn Q)) ∧ v6_refuses p (a + 1) (b + 1) (cn Q) = v12_isRefused q (cn a) (cn b) (cn Q) := by
  have eQ := absQ_e q h1 h2
  have eP : v14_abs_0f7a4 p (cn Q) = cn Q.natAbs := eQ
  have o := fun {C : Nat} (hC : C < 4) (t : Int32) => over_eq (N := Q.natAbs) (t := t) ha hC H hK hA hP (by omega) (by omega)
  have hza : ¬ a + 1 = 0 := by omega
  have hzb : ¬ b + 1 = 0 := by omega
  have gl := fun {C : Nat} (hC : C < 4) => g_limitOf p (a := a) (c := C) (by omega) hC
  have gs := g_spread p b
  have gc := g_con q
  have ga := g_abs p (cn Q)
  have gaq := g_absQ q (cn Q)
  have es := spread_e hb hK
  have e1 := (hK.2 b hb).2.1
  have e2 := (hK.2 b hb).2.2
  have pos : (0 < cn Q) = (0 < Q) := by rw [zcn, cnlt ⟨by omega, by omega⟩ ⟨by omega, by omega⟩]
  have neg : (cn Q < 0) = (Q < 0) := by rw [zcn, cnlt ⟨by omega, by omega⟩ ⟨by omega, by omega⟩]
  by_cases h4 : b < 4
  · rw [if_pos h4] at es e1 e2
    have c0 := con0 q hb
    have c1 := con1 q hb
    rw [if_pos h4] at c0 c1
    have t1 := o h4 (cn 1)
    have t0 := o h4 (cn 0)
    have gl1 := gl h4
    simp only [g6_refuses, bg6_refuses, v6_refuses, bv6_refuses, g12_isRefused, bg12_isRefused, v12_isRefused, bv12_isRefused, e1, eP, eQ, es, c0, c1, if_pos cn0e', if_pos cnm1, t1.2, t0.2, pos, ite_not]
    repeat' first
      | with_reducible exact hza
      | with_reducible exact hzb
      | with_reducible exact gl1
      | with_reducible exact gs
      | with_reducible exact gc _ _
      | with_reducible exact ga
      | with_reducible exact gaq
      | with_reducible exact t1.1.1
      | with_reducible exact t1.1.2
      | with_reducible exact t0.1.1
      | with_reducible exact t0.1.2
      | with_reducible exact rfl
      | exact trivial
      | exact not_false
      | (split <;> rename_i h9 <;> first | simp only [if_neg h9, if_true, if_false] | simp only [if_pos h9, if_true, if_false] | skip)
      | apply And.intro
  · rw [if_neg h4] at es e1 e2
    have c0 := con0 q hb
    have c1 := con1 q hb
    rw [if_neg h4] at c0 c1
    have f0 : (b : Int) - 4 = ((b - 4 : Nat) : Int) := by omega
    have f1 : (b : Int) - 3 = ((b - 3 : Nat) : Int) := by omega
    rw [f0] at e1 c0
    rw [f1] at e2 c1
    have t1 := o (C := b - 4) (by omega) (cn 1)
    have t0 := o (C := b - 4) (by omega) (cn 0)
    have u1 := o (C := b - 3) (by omega) (cn 1)
    have u0 := o (C := b - 3) (by omega) (cn 0)
    have gl1 := gl (C := b - 4) (by omega)
    have gl2 := gl (C := b - 3) (by omega)
    have hneg : ¬ cn ((b - 3 : Nat) : Int) < 0 := cnge (by omega)
    by_cases hq : 0 < Q
    · simp only [g6_refuses, bg6_refuses, v6_refuses, bv6_refuses, g12_isRefused, bg12_isRefused, v12_isRefused, bv12_isRefused, e1, e2, eP, eQ, es, c0, c1, if_neg cn01, if_neg hneg, t1.2, t0.2, u1.2, u0.2, pos, neg, if_pos hq, if_neg (show ¬ Q < 0 by omega), ite_not]
      repeat' first
        | with_reducible exact hza
        | with_reducible exact hzb
        | with_reducible exact gl1
        | with_reducible exact gl2
        | with_reducible exact gs
        | with_reducible exact gc _ _
        | with_reducible exact ga
        | with_reducible exact gaq
        | with_reducible exact t1.1.1
        | with_reducible exact t1.1.2
        | with_reducible exact t0.1.1
        | with_reducible exact t0.1.2
        | with_reducible exact u1.1.1
        | with_reducible exact u1.1.2
        | with_reducible exact u0.1.1
        | with_reducible exact u0.1.2
        | with_reducible exact rfl
        | exact trivial
        | exact not_false
        | (split <;> rename_i h9 <;> first | simp only [if_neg h9, if_true, if_false] | simp only [if_pos h9, if_true, if_false] | skip)
        | apply And.intro
    · simp only [g6_refuses, bg6_refuses, v6_refuses, bv6_refuses, g12_isRefused, bg12_isRefused, v12_isRefused, bv12_isRefused, e1, e2, eP, eQ, es, c0, c1, if_neg cn01, if_neg hneg, t1.2, t0.2, u1.2, u0.2, pos, neg, if_neg hq, if_pos (show Q < 0 by omega), ite_not]
      repeat' first
        | with_reducible exact hza
        | with_reducible exact hzb
        | with_reducible exact gl1
        | with_reducible exact gl2
        | with_reducible exact gs
        | with_reducible exact gc _ _
        | with_reducible exact ga
        | with_reducible exact gaq
        | with_reducible exact t1.1.1
        | with_reducible exact t1.1.2
        | with_reducible exact t0.1.1
        | with_reducible exact t0.1.2
        | with_reducible exact u1.1.1
        | with_reducible exact u1.1.2
        | with_reducible exact u0.1.1
        | with_reducible exact u0.1.2
        | with_reducible exact rfl
        | exact trivial
        | exact not_false
        | (split <;> rename_i h9 <;> first | simp only [if_neg h9, if_true, if_false] | simp only [if_pos h9, if_true, if_false] | skip)
        | apply And.intro
/-- a member: failed or not -/
def FailR (p q : PM) : Prop := ∀ m, m < 4 → p.1 9 (m + 1) 3 = q.1 15 9 m ∧ b01 (q.1 15 9 m)
theorem shut_eq {p q : PM} {x y a b : Nat} {Q : Int} (ha : a < 8) (hb : b < 6) (H : OR p q x y) (hK : CK p) (hA : AR p q) (hP : PB q) (hF : FailR p q) (h1 : -50 ≤ Q) (h2 : Q ≤ 50) (h3 : ¬ Q = 0) : (g5_admits p (cn a) (cn b) (cn Q) ∧ g12_isShut q (cn a) (cn b) (cn Q)) ∧ v5_admits p (cn a) (cn b) (cn Q) = if v12_isShut q (cn a) (cn b) (cn Q) = 0 then cn 1 else cn 0 := by
  have r := refuse_eq ha hb H hK hA hP h1 h2 h3
  have em := (hK.1 a (by omega)).2
  have hm : a / 2 < 4 := by omega
  have ef := (hF (a / 2) hm).1
  have hz : ¬ a + 1 = 0 := by omega
  have hzm : ¬ a / 2 + 1 = 0 := by omega
  have g1 := g_account p (a := a) (by omega)
  have g2 := g_member p hm
  have g3 := g_book p hb
  have g4 := g_liveP p
  have g5 := g_liveQ q
  have g6 := cninb (i := a / 2) (n := 4) hm (by omega)
  simp only [g5_admits, bg5_admits, v5_admits, bv5_admits, g12_isShut, bg12_isShut, v12_isShut, bv12_isShut, account_e p (a := a) (by omega), em, member_e p hm, book_e p hb, half (a := a) (by omega), cntk (i := a / 2) (by omega), ef, live_eq H, r.2, ite_z, cn1F, cn0T]
  repeat' first
    | with_reducible exact hz
    | with_reducible exact hzm
    | with_reducible exact g1
    | with_reducible exact g2
    | with_reducible exact g3
    | with_reducible exact g4
    | with_reducible exact g5
    | with_reducible exact g6
    | with_reducible exact r.1.1
    | with_reducible exact r.1.2
    | with_reducible exact rfl
    | exact trivial
    | exact not_false
    | (split <;> rename_i h9 <;> first | simp only [if_neg h9, if_true, if_false] | simp only [if_pos h9, if_true, if_false] | skip)
    | apply And.intro
