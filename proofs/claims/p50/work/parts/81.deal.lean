/-! a trade is written down -/
def tkC (p : PM) (a b : Nat) (v z : Int32) : PM := pJ (if b < 4 then pI p 13 (2 * (a + 1) - 1) b (p.1 13 (2 * (a + 1) - 1) b + v) else pI (pI p 13 (2 * (a + 1) - 1) (b - 4) (p.1 13 (2 * (a + 1) - 1) (b - 4) + v)) 13 (2 * (a + 1) - 1) (b - 3) (p.1 13 (2 * (a + 1) - 1) (b - 3) - v)) 0 (a + 1) 4 (p.2.1 0 (a + 1) 4 - v.toInt64 * z.toInt64)
def hdQ (q : PM) (a b : Nat) (v z : Int32) : PM := pJ (if b < 4 then pI q 13 1 (4 * a + b) (q.1 13 1 (4 * a + b) + v) else pI (pI q 13 1 (4 * a + (b - 4)) (q.1 13 1 (4 * a + (b - 4)) + v)) 13 1 (4 * a + (b - 3)) (q.1 13 1 (4 * a + (b - 3)) - v)) 14 1 a (q.2.1 14 1 a - v.toInt64 * z.toInt64)
theorem take_e {p : PM} {a b : Nat} (ha : a < 9) (hb : b < 6) (hK : CK p) (v z : Int32) : g0_take p (a + 1) (b + 1) v z ∧ v0_take p (a + 1) (b + 1) v z = tkC p a b v z := by
  have hza : ¬ a + 1 = 0 := by omega
  have hzb : ¬ b + 1 = 0 := by omega
  have g1 : ¬ a + 1 = 0 ∧ a + 1 ≤ 9 := ⟨by omega, by omega⟩
  have g2 : ¬ 2 * (a + 1) - 1 = 0 ∧ 2 * (a + 1) - 1 ≤ 18 := ⟨by omega, by omega⟩
  have e1 := (hK.2 b hb).2.1
  have e2 := (hK.2 b hb).2.2
  have k13 : ∀ {f : Nat → Nat → Nat → Int32} {w : Int32} {i s S : Nat}, u3 f 13 i s w 1 (b + 1) S = f 1 (b + 1) S := fun {f w i s S} => u3_k (by decide)
  unfold g0_take bg0_take v0_take bv0_take tkC
  by_cases h4 : b < 4
  · rw [if_pos h4] at e1 e2
    have hi := cninb (i := b) (n := 4) h4 (by omega)
    have h5 : cn (-100000) < (0 : Int32) := by decide
    simp only [e1, e2, if_neg (cnge (j := b) (by omega)), if_pos (lpt (i := b) (N := 4) (by omega) (by omega)), cntk (i := b) (by omega), pI_1, k13, if_pos h5, if_pos h4]
    refine ⟨?_, rfl⟩
    repeat' first
      | with_reducible exact hza
      | with_reducible exact hzb
      | with_reducible exact g1
      | with_reducible exact g2
      | with_reducible exact hi
      | exact trivial
      | exact not_false
      | apply And.intro
      | (split <;> rename_i h9 <;> first | simp only [if_neg h9, if_true, if_false] | simp only [if_pos h9, if_true, if_false] | skip)
  · rw [if_neg h4] at e1 e2
    have f0 : (b : Int) - 4 = ((b - 4 : Nat) : Int) := by omega
    have f1 : (b : Int) - 3 = ((b - 3 : Nat) : Int) := by omega
    rw [f0] at e1
    rw [f1] at e2
    have hi := cninb (i := b - 4) (n := 4) (by omega) (by omega)
    have hj := cninb (i := b - 3) (n := 4) (by omega) (by omega)
    have hs : ∀ {f : Nat → Nat → Nat → Int32} {w : Int32}, u3 f 13 (2 * (a + 1) - 1) (b - 4) w 13 (2 * (a + 1) - 1) (b - 3) = f 13 (2 * (a + 1) - 1) (b - 3) := fun {f w} => u3_s (by omega)
    simp only [e1, e2, if_neg (cnge (j := b - 4) (by omega)), if_neg (cnge (j := b - 3) (by omega)), if_pos (lpt (i := b - 4) (N := 4) (by omega) (by omega)), if_pos (lpt (i := b - 3) (N := 4) (by omega) (by omega)), cntk (i := b - 4) (by omega), cntk (i := b - 3) (by omega), pI_1, k13, if_neg h4, hs]
    refine ⟨?_, rfl⟩
    repeat' first
      | with_reducible exact hza
      | with_reducible exact hzb
      | with_reducible exact g1
      | with_reducible exact g2
      | with_reducible exact hi
      | with_reducible exact hj
      | exact trivial
      | exact not_false
      | apply And.intro
      | (split <;> rename_i h9 <;> first | simp only [if_neg h9, if_true, if_false] | simp only [if_pos h9, if_true, if_false] | skip)
theorem holds_q {q : PM} {a b : Nat} (ha : a < 9) (hb : b < 6) (v z : Int32) : g12_holds q (cn a) (cn b) v z ∧ v12_holds q (cn a) (cn b) v z = hdQ q a b v z := by
  have c0 := fun q => con0 q hb
  have c1 := fun q => con1 q hb
  have gc := fun q => g_con q
  have ga := cninb (i := a) (n := 9) ha (by omega)
  unfold g12_holds bg12_holds v12_holds bv12_holds hdQ
  by_cases h4 : b < 4
  · simp only [if_pos h4] at c0 c1
    have hi := cninb (i := 4 * a + b) (n := 36) (by omega) (by omega)
    simp only [c0, c1, idx4, cntk (i := 4 * a + b) (by omega), cntk (i := a) (by omega), if_pos cnm1, if_pos h4]
    refine ⟨?_, rfl⟩
    repeat' first
      | with_reducible exact hi
      | with_reducible exact ga
      | with_reducible exact gc _ _ _
      | exact trivial
      | exact not_false
      | apply And.intro
      | (split <;> rename_i h9 <;> first | simp only [if_neg h9, if_true, if_false] | simp only [if_pos h9, if_true, if_false] | skip)
  · simp only [if_neg h4] at c0 c1
    have f0 : (b : Int) - 4 = ((b - 4 : Nat) : Int) := by omega
    have f1 : (b : Int) - 3 = ((b - 3 : Nat) : Int) := by omega
    rw [f0] at c0
    rw [f1] at c1
    have hi := cninb (i := 4 * a + (b - 4)) (n := 36) (by omega) (by omega)
    have hj := cninb (i := 4 * a + (b - 3)) (n := 36) (by omega) (by omega)
    have hs : ∀ {f : Nat → Nat → Nat → Int32} {w : Int32}, u3 f 13 1 (4 * a + (b - 4)) w 13 1 (4 * a + (b - 3)) = f 13 1 (4 * a + (b - 3)) := fun {f w} => u3_s (by omega)
    simp only [c0, c1, idx4, cntk (i := 4 * a + (b - 4)) (by omega), cntk (i := 4 * a + (b - 3)) (by omega), cntk (i := a) (by omega), if_neg (cnge (j := b - 3) (by omega)), if_neg h4, pI_1, hs]
    refine ⟨?_, rfl⟩
    repeat' first
      | with_reducible exact hi
      | with_reducible exact hj
      | with_reducible exact ga
      | with_reducible exact gc _ _ _
      | exact trivial
      | exact not_false
      | apply And.intro
      | (split <;> rename_i h9 <;> first | simp only [if_neg h9, if_true, if_false] | simp only [if_pos h9, if_true, if_false] | skip)
/-- what they leave -/
theorem tkC_k {p : PM} {a b : Nat} {v z : Int32} {k : Nat} (h : ¬ k = 13) : (tkC p a b v z).1 k = p.1 k := by
  funext i s
  unfold tkC
  rw [pJ_1]
  split
  · exact u3_k h
  · rw [pI_1, u3_k h]
    exact u3_k h
theorem tkC_13 {p : PM} {a b : Nat} {v z : Int32} {i : Nat} (h : ¬ i = 2 * (a + 1) - 1) : (tkC p a b v z).1 13 i = p.1 13 i := by
  funext s
  unfold tkC
  rw [pJ_1]
  split
  · exact u3_i h
  · rw [pI_1, u3_i h]
    exact u3_i h
theorem tkC_R {p : PM} {a b : Nat} {v z : Int32} : (tkC p a b v z).2.2 = p.2.2 := by
  unfold tkC
  split <;> rfl
theorem tkC_J {p : PM} {a b : Nat} {v z : Int32} : (tkC p a b v z).2.1 = u3 p.2.1 0 (a + 1) 4 (p.2.1 0 (a + 1) 4 - v.toInt64 * z.toInt64) := by
  unfold tkC
  split <;> rfl
theorem hdQ_k {q : PM} {a b : Nat} {v z : Int32} {k : Nat} (h : ¬ k = 13) : (hdQ q a b v z).1 k = q.1 k := by
  funext i s
  unfold hdQ
  rw [pJ_1]
  split
  · exact u3_k h
  · rw [pI_1, u3_k h]
    exact u3_k h
theorem hdQ_13 {q : PM} {a b : Nat} {v z : Int32} {i : Nat} (h : ¬ i = 1) : (hdQ q a b v z).1 13 i = q.1 13 i := by
  funext s
  unfold hdQ
  rw [pJ_1]
  split
  · exact u3_i h
  · rw [pI_1, u3_i h]
    exact u3_i h
theorem hdQ_R {q : PM} {a b : Nat} {v z : Int32} : (hdQ q a b v z).2.2 = q.2.2 := by
  unfold hdQ
  split <;> rfl
theorem hdQ_J {q : PM} {a b : Nat} {v z : Int32} : (hdQ q a b v z).2.1 = u3 q.2.1 14 1 a (q.2.1 14 1 a - v.toInt64 * z.toInt64) := by
  unfold hdQ
  split <;> rfl
theorem acr_take {p q : PM} {a b : Nat} (hb : b < 6) {v z : Int32} (H : ∀ c, c < 9 → AcR p q c) (ha : a < 9) : ∀ c, c < 9 → AcR (tkC p a b v z) (hdQ q a b v z) c := by
  intro c hc
  obtain ⟨h1, h2⟩ := H c hc
  unfold AcR
  rw [tkC_J, hdQ_J]
  by_cases e : c = a
  · subst e
    refine ⟨fun C hC => ?_, by rw [u3_same, u3_same, h2]⟩
    unfold tkC hdQ
    rw [pJ_1, pJ_1]
    by_cases h4 : b < 4
    · rw [if_pos h4, if_pos h4, pI_1, pI_1]
      by_cases e2 : C = b
      · rw [e2, u3_same, u3_same, h1 b h4]
      · rw [u3_s e2, u3_s (by omega)]
        exact h1 C hC
    · rw [if_neg h4, if_neg h4, pI_1, pI_1, pI_1, pI_1]
      by_cases e2 : C = b - 3
      · rw [e2, u3_same, u3_same, h1 (b - 3) (by omega)]
      · rw [u3_s e2, u3_s (show ¬ 4 * c + C = 4 * c + (b - 3) by omega)]
        by_cases e3 : C = b - 4
        · rw [e3, u3_same, u3_same, h1 (b - 4) (by omega)]
        · rw [u3_s e3, u3_s (by omega)]
          exact h1 C hC
  · refine ⟨fun C hC => ?_, by rw [u3_i (by omega), u3_s e]; exact h2⟩
    rw [tkC_13 (by omega)]
    unfold hdQ
    rw [pJ_1]
    by_cases h4 : b < 4
    · rw [if_pos h4, pI_1, u3_s (by omega)]
      exact h1 C hC
    · rw [if_neg h4, pI_1, u3_s (by omega), pI_1, u3_s (by omega)]
      exact h1 C hC
