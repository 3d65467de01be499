/-! accounts; what an account could come to -/
def AcR (p q : PM) (a : Nat) : Prop := (∀ c, c < 4 → p.1 13 (2 * (a + 1) - 1) c = q.1 13 1 (4 * a + c)) ∧ p.2.1 0 (a + 1) 4 = q.2.1 14 1 a
def TrR (p q : PM) (a : Nat) : Prop := (∀ c, c < 4 → ∃ z : Int, 0 ≤ z ∧ z ≤ 999 ∧ p.1 13 (2 * (a + 1)) c = cn z ∧ q.1 13 2 (4 * a + c) = cn z) ∧ (∃ z : Int, 0 ≤ z ∧ z ≤ 999 ∧ p.1 0 (a + 1) 5 = cn z ∧ q.1 13 3 a = cn z) ∧ (∃ z : Int, 0 ≤ z ∧ z ≤ 1000000000 ∧ p.1 0 (a + 1) 6 = cn z ∧ q.1 13 4 a = cn z) ∧ (p.1 0 (a + 1) 7 = q.1 15 1 a ∧ b01 (q.1 15 1 a)) ∧ p.1 0 (a + 1) 8 = q.1 13 5 a
def AR (p q : PM) : Prop := (∀ a, a < 9 → AcR p q a) ∧ ∀ a, a < 8 → TrR p q a
/-- positions are far from the ends -/
def PB (q : PM) : Prop := ∀ k, k < 36 → ∃ z : Int, -2000000000 ≤ z ∧ z ≤ 2000000000 ∧ q.1 13 1 k = cn z
theorem abs_e (p q : PM) (v : Int32) : v14_abs_0f7a4 p v = v12_abs q v := rfl
theorem g_abs (p : PM) (v : Int32) : g14_abs_0f7a4 p v := by
  unfold g14_abs_0f7a4 bg14_abs_0f7a4
  split <;> trivial
theorem g_absQ (p : PM) (v : Int32) : g12_abs p v := by
  unfold g12_abs bg12_abs
  split <;> trivial
theorem account_e (p : PM) {a : Nat} (h : a < 9) : v7_accountAt p (cn a) = a + 1 := by
  unfold v7_accountAt bv7_accountAt
  rw [if_neg (cnge (by omega)), if_pos (lpt (N := 9) (by omega) (by omega)), cntk (by omega)]
theorem g_account (p : PM) {a : Nat} (h : a < 9) : g7_accountAt p (cn a) := by
  unfold g7_accountAt bg7_accountAt
  rw [if_neg (cnge (by omega)), if_pos (lpt (N := 9) (by omega) (by omega))]
  exact ⟨cninb h (by omega), trivial⟩
theorem book_e (p : PM) {a : Nat} (h : a < 6) : v6_bookAt p (cn a) = a + 1 := by
  unfold v6_bookAt bv6_bookAt
  rw [if_neg (cnge (by omega)), if_pos (lpt (N := 6) (by omega) (by omega)), cntk (by omega)]
theorem g_book (p : PM) {a : Nat} (h : a < 6) : g6_bookAt p (cn a) := by
  unfold g6_bookAt bg6_bookAt
  rw [if_neg (cnge (by omega)), if_pos (lpt (N := 6) (by omega) (by omega))]
  exact ⟨cninb h (by omega), trivial⟩
theorem member_e (p : PM) {a : Nat} (h : a < 4) : v2_memberAt p (cn a) = a + 1 := by
  unfold v2_memberAt bv2_memberAt
  rw [if_neg (cnge (by omega)), if_pos (lpt (N := 4) (by omega) (by omega)), cntk (by omega)]
theorem g_member (p : PM) {a : Nat} (h : a < 4) : g2_memberAt p (cn a) := by
  unfold g2_memberAt bg2_memberAt
  rw [if_neg (cnge (by omega)), if_pos (lpt (N := 4) (by omega) (by omega))]
  exact ⟨cninb h (by omega), trivial⟩
theorem holds_e (p : PM) (A : Nat) {c : Nat} (h : c < 4) : v0_holds p A (cn c) = p.1 13 (2 * A - 1) c := by
  unfold v0_holds bv0_holds
  rw [if_neg (cnge (by omega)), if_pos (lpt (N := 4) (by omega) (by omega)), cntk (by omega)]
theorem g_holds (p : PM) {a c : Nat} (ha : a < 9) (h : c < 4) : g0_holds p (a + 1) (cn c) := by
  have hi := cninb (i := c) (n := 4) h (by omega)
  unfold g0_holds bg0_holds
  rw [if_neg (cnge (by omega)), if_pos (lpt (N := 4) (by omega) (by omega))]
  exact ⟨⟨by omega, by omega⟩, ⟨by omega, by omega⟩, ⟨by omega, by omega⟩, ⟨⟨by omega, by omega⟩, hi⟩, trivial⟩
theorem limitOf_e (p : PM) (A : Nat) {c : Nat} (h : c < 4) : v0_limitOf p A (cn c) = p.1 13 (2 * A) c := by
  unfold v0_limitOf bv0_limitOf
  rw [if_neg (cnge (by omega)), if_pos (lpt (N := 4) (by omega) (by omega)), cntk (by omega)]
theorem g_limitOf (p : PM) {a c : Nat} (ha : a < 9) (h : c < 4) : g0_limitOf p (a + 1) (cn c) := by
  have hi := cninb (i := c) (n := 4) h (by omega)
  unfold g0_limitOf bg0_limitOf
  rw [if_neg (cnge (by omega)), if_pos (lpt (N := 4) (by omega) (by omega))]
  exact ⟨⟨by omega, by omega⟩, ⟨by omega, by omega⟩, ⟨by omega, by omega⟩, ⟨⟨by omega, by omega⟩, hi⟩, trivial⟩
theorem con0 (q : PM) {b : Nat} (h : b < 6) : v12_contractOf q (cn b) (cn 0) = cn (if b < 4 then b else b - 4) := by
  unfold v12_contractOf bv12_contractOf
  by_cases h4 : b < 4
  · rw [if_pos (lpt (N := 4) (by omega) (by omega)), if_pos cn0e', if_pos h4]
  · rw [if_neg (lpf (N := 4) (by omega) (by omega) (by omega)), if_pos cn0e', if_neg h4, cnsub]
theorem con1 (q : PM) {b : Nat} (h : b < 6) : v12_contractOf q (cn b) (cn 1) = cn (if b < 4 then -1 else b - 3) := by
  unfold v12_contractOf bv12_contractOf
  by_cases h4 : b < 4
  · rw [if_pos (lpt (N := 4) (by omega) (by omega)), if_neg cn01, if_pos h4]
  · rw [if_neg (lpf (N := 4) (by omega) (by omega) (by omega)), if_neg cn01, if_neg h4, cnsub]
theorem g_con (q : PM) (b t : Int32) : g12_contractOf q b t := by
  unfold g12_contractOf bg12_contractOf
  split <;> split <;> trivial
theorem rests_tail {q : PM} {A C t : Int32} (hd : ∀ i, 40 ≤ i → i < 44 → q.1 15 3 i = cn 0) : ∀ (d i n : Nat) (acc : Int32), i + d = 44 → 40 ≤ i → d < n → g12_restsOf_6 q n A C t acc (cn i) ∧ v12_restsOf_6 q n A C t acc (cn i) = acc := by
  intro d
  induction d with
  | zero =>
    intro i n acc h1 h0 h2
    obtain ⟨m, rfl⟩ : ∃ m, n = m + 1 := ⟨n - 1, by omega⟩
    simp only [eg12_restsOf_6, ev12_restsOf_6, bg12_restsOf_6, bv12_restsOf_6, if_neg (lpf (i := i) (N := 44) (by omega) (by omega) (by omega))]
    exact ⟨trivial, trivial⟩
  | succ d ih =>
    intro i n acc h1 h0 h2
    obtain ⟨m, rfl⟩ : ∃ m, n = m + 1 := ⟨n - 1, by omega⟩
    have hi := cninb (i := i) (n := 44) (by omega) (by omega)
    have h3 : q.1 15 3 i = 0 := hd i h0 (by omega)
    simp only [eg12_restsOf_6, ev12_restsOf_6, bg12_restsOf_6, bv12_restsOf_6, if_pos (lpt (i := i) (N := 44) (by omega) (by omega)), cntk (i := i) (by omega), cnsucc, if_pos h3]
    have k1 := ih (i + 1) m acc (by omega) (by omega) (by omega)
    exact ⟨⟨hi, k1.1⟩, k1.2⟩
theorem reach_loop {p q : PM} {x y a C : Nat} {t : Int32} {base : Int64} (ha : a < 8) (hC : C < 4) (H : OR p q x y) (hK : CK p) : ∀ (d i n n' : Nat) (S : Int), i + d = 40 → d < n → d + 4 < n' → 0 ≤ S → S ≤ 50 * i → (g6_reach_36 p n (a + 1) (cn C) t (base + cl S) (cn i) ∧ g12_restsOf_6 q n' (cn a) (cn C) t (cn S) (cn i)) ∧ ∃ S' : Int, 0 ≤ S' ∧ S' ≤ 2000 ∧ v6_reach_36 p n (a + 1) (cn C) t (base + cl S) (cn i) = base + cl S' ∧ v12_restsOf_6 q n' (cn a) (cn C) t (cn S) (cn i) = cn S' := by
  intro d
  induction d with
  | zero =>
    intro i n n' S h1 h2 h3 h4 h5
    obtain ⟨m, rfl⟩ : ∃ m, n = m + 1 := ⟨n - 1, by omega⟩
    have k := rests_tail (A := cn a) (C := cn C) (t := t) H.2 4 i n' (cn S) (by omega) (by omega) (by omega)
    simp only [eg6_reach_36, ev6_reach_36, bg6_reach_36, bv6_reach_36, if_neg (lpf (i := i) (N := 40) (by omega) (by omega) (by omega))]
    exact ⟨⟨trivial, k.1⟩, S, h4, by omega, rfl, k.2⟩
  | succ d ih =>
    intro i n n' S h1 h2 h3 h4 h5
    obtain ⟨m, rfl⟩ : ∃ m, n = m + 1 := ⟨n - 1, by omega⟩
    obtain ⟨m', rfl⟩ : ∃ m, n' = m + 1 := ⟨n' - 1, by omega⟩
    have hi := cninb (i := i) (n := 40) (by omega) (by omega)
    have hi' := cninb (i := i) (n := 44) (by omega) (by omega)
    have hz : ¬ i + 1 = 0 := by omega
    have hS := H.1 i (by omega)
    have hg : (p.1 10 (i + 1) 2 = 0) = (q.1 15 3 i = 0) := slot_gone hS
    have k0 := ih (i + 1) m m' S (by omega) (by omega) (by omega) h4 (by omega)
    simp only [eg6_reach_36, ev6_reach_36, bg6_reach_36, bv6_reach_36, eg12_restsOf_6, ev12_restsOf_6, bg12_restsOf_6, bv12_restsOf_6, if_pos (lpt (i := i) (N := 40) (by omega) (by omega)), if_pos (lpt (i := i) (N := 44) (by omega) (by omega)), cntk (i := i) (by omega), cnsucc, hg, addz]
    by_cases h0 : q.1 15 3 i = 0
    · simp only [if_pos h0]
      repeat' first
        | exact hi
        | exact hi'
        | exact k0.1.1
        | exact k0.1.2
        | exact k0.2
        | exact trivial
        | exact not_false
        | (split <;> rename_i h9 <;> first | simp only [if_neg h9, if_true, if_false] | simp only [if_pos h9, if_true, if_false] | skip)
        | apply And.intro
    obtain ⟨hl, a', b, r, s, z, hL⟩ := slot_live hS h0
    obtain ⟨⟨a1, a2, a3⟩, ⟨b1, b2, b3⟩, -, -, ⟨e5, -⟩, -, -, ⟨r1, r2, r3, r4⟩, -⟩ := hL
    have kr := ih (i + 1) m m' (S + r) (by omega) (by omega) (by omega) (by omega) (by omega)
    have ea : (a' + 1 = a + 1) = (cn (a' : Int) = cn (a : Int)) := by
      rw [cneq ⟨by omega, by omega⟩ ⟨by omega, by omega⟩]
      exact propext ⟨fun h => by omega, fun h => by omega⟩
    have f1 : (p.1 1 (b + 1) 1 = cn C) = (cn (if b < 4 then b else b - 4) = cn (C : Int)) := by rw [(hK.2 b b1).2.1]
    have f2 : (p.1 1 (b + 1) 2 = cn C) = (cn (if b < 4 then -1 else b - 3) = cn (C : Int)) := by
      rw [(hK.2 b b1).2.2]
      by_cases h4 : b < 4
      · rw [if_pos h4, if_pos h4, cneq ⟨by omega, by omega⟩ ⟨by omega, by omega⟩, cneq ⟨by omega, by omega⟩ ⟨by omega, by omega⟩]
        exact propext ⟨fun h => by omega, fun h => by omega⟩
      · rw [if_neg h4, if_neg h4]
    have es : base + cl S + (cn r).toInt64 = base + cl (S + r) := by
      rw [cn64 ⟨by omega, by omega⟩, Int64.add_assoc, cladd]
    have gc := g_con q
    have hzb : ¬ b + 1 = 0 := by omega
    simp only [if_neg h0, a3, a2, ea, v10_addsTo, bv10_addsTo, g10_addsTo, bg10_addsTo, b3, b2, f1, f2, e5, con0 q b1, con1 q b1, r3, r4, es, cnadd, ite_z, cn1F, cn0T]
    repeat' first
      | exact hi
      | exact hi'
      | exact hz
      | exact hzb
      | exact gc _ _
      | exact k0.1.1
      | exact k0.1.2
      | exact k0.2
      | exact kr.1.1
      | exact kr.1.2
      | exact kr.2
      | exact trivial
      | exact not_false
      | (split <;> rename_i h9 <;> first | simp only [if_neg h9, if_true, if_false] | simp only [if_pos h9, if_true, if_false] | skip)
      | apply And.intro
