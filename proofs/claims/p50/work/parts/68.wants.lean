/-! what is wanted at a price of an auction; who trades first there -/
/-- no peg stands in this book -/
def NP (q : PM) (b : Nat) : Prop := ∀ i, i < 40 → stnd q i → q.1 13 16 i = cn b → ¬ q.1 13 19 i = cn 2
theorem g_allows (p : PM) (i : Nat) (v : Int32) : g10_allows p (i + 1) v := by
  have hz : ¬ i + 1 = 0 := by omega
  unfold g10_allows bg10_allows
  repeat' first
    | exact hz
    | exact trivial
    | exact not_false
    | apply And.intro
    | (split <;> rename_i h9 <;> first | simp only [if_neg h9, if_true, if_false] | simp only [if_pos h9, if_true, if_false] | skip)
theorem there_bk {q : PM} {i : Nat} (hi : i ≤ 2147483647) {B t : Int32} (h : ¬ v12_isThere q (cn i) B t = 0) : stnd q i ∨ ¬ b01 (q.1 15 3 i) := by
  rw [there_e q i hi] at h
  by_cases h0 : q.1 15 3 i = 0
  · rw [if_pos h0] at h
    exact absurd rfl h
  · rw [if_neg h0] at h
    by_cases h1 : q.1 13 24 i = cn 1 ∧ q.1 13 16 i = B ∧ q.1 15 4 i = t
    · by_cases hb : b01 (q.1 15 3 i)
      · exact Or.inl ⟨b_ne hb h0, h1.1⟩
      · exact Or.inr hb
    · rw [if_neg h1] at h
      exact absurd rfl h
theorem there_book {q : PM} {i : Nat} (hi : i ≤ 2147483647) {B t : Int32} (h : ¬ v12_isThere q (cn i) B t = 0) : q.1 13 16 i = B := by
  rw [there_e q i hi] at h
  by_cases h0 : q.1 15 3 i = 0
  · rw [if_pos h0] at h
    exact absurd rfl h
  · rw [if_neg h0] at h
    by_cases h1 : q.1 13 24 i = cn 1 ∧ q.1 13 16 i = B ∧ q.1 15 4 i = t
    · exact h1.2.1
    · rw [if_neg h1] at h
      exact absurd rfl h
/-- whether an order allows a price -/
theorem allows_e {p q : PM} {x y i a b : Nat} {r s z w : Int} (v : Int32) (hL : LV p q x y i a b r s z) (hB : BookedR p q y i b r s z w) (hk : ¬ q.1 13 19 i = cn 2) : (v10_allows p (i + 1) v = 0) = (q.1 15 5 i = 0 ∧ ¬ v12_isBetter q v (q.1 13 25 i) (q.1 15 4 i) = 0) := by
  have h6 := hL.2.2.2.2.2.1
  have h5 := hL.2.2.2.2.1.1
  have hw := hB.2.1
  unfold v10_allows bv10_allows v12_isBetter bv12_isBetter
  rw [h6.1, h5]
  rcases h6.2 with ⟨k1, k2⟩ | ⟨k1, k2, k3⟩
  · rw [k1, k2, if_pos rfl]
    exact propext ⟨fun h => absurd h cn01, fun h => absurd h.1 cn01⟩
  · rw [k1, if_neg (pr_ne k2)]
    rcases hw with ⟨g1, -⟩ | ⟨-, g2, g3, g4⟩
    · rw [g1] at k1
      exact absurd k1 (by decide)
    · have g5 : w = z := g4.resolve_left hk
      rw [g3, g5]
      by_cases h1 : q.1 15 4 i = 0
      · simp only [if_pos h1, ite_z, cn1F, cn0T, cn0e', true_and]
        by_cases h2 : v < cn z
        · simp only [if_pos h2, not_false_eq_true]
        · simp only [if_neg h2, not_true_eq_false]
      · simp only [if_neg h1, ite_z, cn1F, cn0T, cn0e', true_and]
        by_cases h2 : cn z < v
        · simp only [if_pos h2, not_false_eq_true]
        · simp only [if_neg h2, not_true_eq_false]
theorem wants_tail {q : PM} {B t v : Int32} (hd : ∀ i, 40 ≤ i → i < 44 → q.1 15 3 i = cn 0) : ∀ (d i n : Nat) (acc : Int32), i + d = 44 → 40 ≤ i → d < n → g12_wants_6 q n B t v acc (cn i) ∧ v12_wants_6 q n B t v acc (cn i) = acc := by
  intro d
  induction d with
  | zero =>
    intro i n acc h1 h0 h2
    obtain ⟨m, rfl⟩ : ∃ m, n = m + 1 := ⟨n - 1, by omega⟩
    simp only [eg12_wants_6, ev12_wants_6, bg12_wants_6, bv12_wants_6, if_neg (lpf (i := i) (N := 44) (by omega) (by omega) (by omega))]
    exact ⟨trivial, trivial⟩
  | succ d ih =>
    intro i n acc h1 h0 h2
    obtain ⟨m, rfl⟩ : ∃ m, n = m + 1 := ⟨n - 1, by omega⟩
    have h3 : v12_isThere q (cn i) B t = 0 := there_dead (by omega) (hd i h0 (by omega))
    simp only [eg12_wants_6, ev12_wants_6, bg12_wants_6, bv12_wants_6, if_pos (lpt (i := i) (N := 44) (by omega) (by omega)), cntk (i := i) (by omega), cnsucc, if_pos h3, addz]
    have k1 := ih (i + 1) m acc (by omega) (by omega) (by omega)
    exact ⟨⟨g_there (by omega) _ _, k1.1⟩, k1.2⟩
theorem wants_loop {p q : PM} {x y b : Nat} {t v : Int32} (hb : b < 6) (H : OR p q x y) (hn : NP q b) : ∀ (d i n n' : Nat) (acc : Int32), i + d = 40 → d < n → d + 4 < n' → (g8_sumAt_20 p n (b + 1) t v acc (cn i) ∧ g12_wants_6 q n' (cn b) t v acc (cn i)) ∧ v8_sumAt_20 p n (b + 1) t v acc (cn i) = v12_wants_6 q n' (cn b) t v acc (cn i) := by
  intro d
  induction d with
  | zero =>
    intro i n n' acc h1 h2 h3
    obtain ⟨m, rfl⟩ : ∃ m, n = m + 1 := ⟨n - 1, by omega⟩
    have k := wants_tail (B := cn b) (t := t) (v := v) H.2 4 i n' acc (by omega) (by omega) (by omega)
    simp only [eg8_sumAt_20, ev8_sumAt_20, bg8_sumAt_20, bv8_sumAt_20, if_neg (lpf (i := i) (N := 40) (by omega) (by omega) (by omega))]
    exact ⟨⟨trivial, k.1⟩, k.2.symm⟩
  | succ d ih =>
    intro i n n' acc h1 h2 h3
    obtain ⟨m, rfl⟩ : ∃ m, n = m + 1 := ⟨n - 1, by omega⟩
    obtain ⟨m', rfl⟩ : ∃ m, n' = m + 1 := ⟨n' - 1, by omega⟩
    have hi := cninb (i := i) (n := 40) (by omega) (by omega)
    have hi' := cninb (i := i) (n := 44) (by omega) (by omega)
    have hS := H.1 i (by omega)
    have k := fun acc => ih (i + 1) m m' acc (by omega) (by omega) (by omega)
    have gs := g_stands p i (b + 1) t
    have gt := g_there (q := q) (i := i) (by omega) (cn b) t
    have ga := g_allows p i v
    simp only [eg8_sumAt_20, ev8_sumAt_20, bg8_sumAt_20, bv8_sumAt_20, eg12_wants_6, ev12_wants_6, bg12_wants_6, bv12_wants_6, if_pos (lpt (i := i) (N := 40) (by omega) (by omega)), if_pos (lpt (i := i) (N := 44) (by omega) (by omega)), cntk (i := i) (by omega), cnsucc, stands_eq hb (by omega) t hS, addz]
    by_cases h0 : v12_isThere q (cn i) (cn b) t = 0
    · simp only [if_pos h0]
      exact ⟨⟨⟨hi, gs, (k acc).1.1⟩, gt, (k acc).1.2⟩, (k acc).2⟩
    obtain ⟨hl, hst, et, -, -, a, r, s, z, w, hL, hB⟩ := there_inv hb (by omega) hS h0
    have ea := allows_e v hL hB (hn i (by omega) ⟨hl, hst⟩ (there_book (by omega) h0))
    rw [et] at ea
    have er : p.1 10 (i + 1) 9 = q.1 13 17 i := by rw [hL.2.2.2.2.2.2.2.1.2.2.1, hL.2.2.2.2.2.2.2.1.2.2.2]
    have gb := fun a b c => g_better q a b c
    by_cases h4 : q.1 15 5 i = 0
    · by_cases h5 : v12_isBetter q v (q.1 13 25 i) t = 0
      · simp only [if_neg h0, ea, h4, h5, not_true_eq_false, and_false, if_false, if_true, er]
        exact ⟨⟨⟨hi, gs, ga, (k _).1.1⟩, gt, hi', hi', gb _ _ _, hi', (k _).1.2⟩, (k _).2⟩
      · simp only [if_neg h0, ea, h4, h5, not_false_eq_true, and_self, if_false, if_true]
        exact ⟨⟨⟨hi, gs, ga, (k _).1.1⟩, gt, hi', hi', gb _ _ _, (k _).1.2⟩, (k _).2⟩
    · simp only [if_neg h0, ea, h4, false_and, if_false, er]
      exact ⟨⟨⟨hi, gs, ga, (k _).1.1⟩, gt, hi', hi', (k _).1.2⟩, (k _).2⟩
theorem wants_eq {p q : PM} {x y b : Nat} (hb : b < 6) (H : OR p q x y) (hn : NP q b) (t v : Int32) : (g8_sumAt p (b + 1) t v ∧ g12_wants q (cn b) t v) ∧ v8_sumAt p (b + 1) t v = v12_wants q (cn b) t v := wants_loop hb H hn 40 0 FU FU (cn 0) rfl (by decide) (by decide)
theorem min_e (p q : PM) (a b : Int32) : v14_min_7cf53 p a b = v12_least q a b := by
  unfold v14_min_7cf53 bv14_min_7cf53 v12_least bv12_least
  have e1 : (b < a) = (b.toInt < a.toInt) := propext Int32.lt_iff_toInt_lt
  have e2 : (a < b) = (a.toInt < b.toInt) := propext Int32.lt_iff_toInt_lt
  simp only [e1, e2]
  by_cases h : b.toInt < a.toInt
  · rw [if_pos h, if_neg (by omega)]
  · rw [if_neg h]
    by_cases h2 : a.toInt < b.toInt
    · rw [if_pos h2]
    · rw [if_neg h2]
      exact Int32.toInt_inj.mp (by omega)
