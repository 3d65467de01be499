/-! who trades first at the price of an auction; that price -/
theorem b_better (q : PM) (a b t : Int32) : b01 (v12_isBetter q a b t) := by
  unfold v12_isBetter bv12_isBetter
  split <;> split <;> first | exact b0 | exact b1
theorem better_irr (q : PM) (a t : Int32) : v12_isBetter q a a t = 0 := by
  unfold v12_isBetter bv12_isBetter
  have h : ¬ a < a := by
    rw [Int32.lt_iff_toInt_lt]
    omega
  simp only [if_neg h, ite_self]
  rfl
def InP (q : PM) (b : Nat) (t : Int32) (j : Nat) : Prop := q.1 13 24 j = cn 1 ∧ q.1 13 16 j = cn b ∧ q.1 15 4 j = t
theorem in_there {q : PM} {j b : Nat} {t : Int32} (hj : j < 40) (hl : q.1 15 3 j = cn 1) (h : InP q b t j) : ¬ v12_isThere q (cn j) (cn b) t = 0 := by
  rw [there_e q j (by omega), hl, if_neg cn01, if_pos (show q.1 13 24 j = cn 1 ∧ q.1 13 16 j = cn b ∧ q.1 15 4 j = t from h)]
  exact cn01
theorem in_tail {q : PM} {B t v : Int32} (hd : ∀ i, 40 ≤ i → i < 44 → q.1 15 3 i = cn 0) : ∀ (d i n : Nat) (acc : Int32), i + d = 44 → 40 ≤ i → d < n → g12_firstIn_6 q n B t v acc (cn i) ∧ v12_firstIn_6 q n B t v acc (cn i) = acc := by
  intro d
  induction d with
  | zero =>
    intro i n acc h1 h0 h2
    obtain ⟨m, rfl⟩ : ∃ m, n = m + 1 := ⟨n - 1, by omega⟩
    simp only [eg12_firstIn_6, ev12_firstIn_6, bg12_firstIn_6, bv12_firstIn_6, if_neg (lpf (i := i) (N := 44) (by omega) (by omega) (by omega))]
    exact ⟨trivial, trivial⟩
  | succ d ih =>
    intro i n acc h1 h0 h2
    obtain ⟨m, rfl⟩ : ∃ m, n = m + 1 := ⟨n - 1, by omega⟩
    have h3 : v12_isThere q (cn i) B t = 0 := there_dead (by omega) (hd i h0 (by omega))
    have gt := g_there (q := q) (i := i) (by omega) B t
    simp only [eg12_firstIn_6, ev12_firstIn_6, bg12_firstIn_6, bv12_firstIn_6, if_pos (lpt (i := i) (N := 44) (by omega) (by omega)), cntk (i := i) (by omega), cnsucc, if_pos h3, g12_firstIn_54, bg12_firstIn_54, v12_firstIn_54, bv12_firstIn_54, cnsucc, cntk (i := i) (by omega), if_pos cn0e']
    have k1 := ih (i + 1) m acc (by omega) (by omega) (by omega)
    exact ⟨⟨gt, k1.1⟩, k1.2⟩
theorem in_loop {p q : PM} {x y b T : Nat} {t v : Int32} (hb : b < 6) (H : OR p q x y) (hn : NP q b) (HT : TR p q T) : ∀ (d i n n' : Nat) (o : Nat) (c : Int32), i + d = 40 → d < n → d + 4 < n' → ChR q (InP q b t) o c → (g8_firstAt_20 p n (b + 1) t v o (cn i) ∧ g12_firstIn_6 q n' (cn b) t v c (cn i)) ∧ ChR q (InP q b t) (v8_firstAt_20 p n (b + 1) t v o (cn i)) (v12_firstIn_6 q n' (cn b) t v c (cn i)) := by
  intro d
  induction d with
  | zero =>
    intro i n n' o c h1 h2 h3 hc
    obtain ⟨m, rfl⟩ : ∃ m, n = m + 1 := ⟨n - 1, by omega⟩
    have k := in_tail (B := cn b) (t := t) (v := v) H.2 4 i n' c (by omega) (by omega) (by omega)
    simp only [eg8_firstAt_20, ev8_firstAt_20, bg8_firstAt_20, bv8_firstAt_20, if_neg (lpf (i := i) (N := 40) (by omega) (by omega) (by omega))]
    rw [k.2]
    exact ⟨⟨trivial, k.1⟩, hc⟩
  | succ d ih =>
    intro i n n' o c h1 h2 h3 hc
    obtain ⟨m, rfl⟩ : ∃ m, n = m + 1 := ⟨n - 1, by omega⟩
    obtain ⟨m', rfl⟩ : ∃ m, n' = m + 1 := ⟨n' - 1, by omega⟩
    have hi := cninb (i := i) (n := 40) (by omega) (by omega)
    have hi' := cninb (i := i) (n := 44) (by omega) (by omega)
    have hz : ¬ i + 1 = 0 := by omega
    have hS := H.1 i (by omega)
    have k := fun o c h => ih (i + 1) m m' o c (by omega) (by omega) (by omega) h
    have k1 := k o c hc
    have gs := g_stands p i (b + 1) t
    have gt := g_there (q := q) (i := i) (by omega) (cn b) t
    have ga := g_allows p i v
    have gb := fun a b c => g_better q a b c
    simp only [eg8_firstAt_20, ev8_firstAt_20, bg8_firstAt_20, bv8_firstAt_20, eg12_firstIn_6, ev12_firstIn_6, bg12_firstIn_6, bv12_firstIn_6, if_pos (lpt (i := i) (N := 40) (by omega) (by omega)), if_pos (lpt (i := i) (N := 44) (by omega) (by omega)), cntk (i := i) (by omega), cnsucc, stands_eq hb (by omega) t hS]
    by_cases h0 : v12_isThere q (cn i) (cn b) t = 0
    · simp only [if_pos h0, g12_firstIn_54, bg12_firstIn_54, v12_firstIn_54, bv12_firstIn_54, cnsucc, cntk (i := i) (by omega), if_pos cn0e']
      exact ⟨⟨⟨hi, gs, k1.1.1⟩, gt, k1.1.2⟩, k1.2⟩
    obtain ⟨hl, hst, et, -, -, a, r, s, z, w, hL, hB⟩ := there_inv hb (by omega) hS h0
    have hbk := there_book (by omega) h0
    have hnp := hn i (by omega) ⟨hl, hst⟩ hbk
    have ea := allows_e v hL hB hnp
    rw [et] at ea
    have hnew : ChR q (InP q b t) (i + 1) (cn i) := Or.inr ⟨i, by omega, rfl, rfl, hl, hst, hbk, et⟩
    have k2 := k _ _ hnew
    simp only [if_neg h0, ea]
    rcases hc with ⟨rfl, rfl⟩ | ⟨j, j1, rfl, rfl, j4, j5⟩
    · by_cases h4 : q.1 15 5 i = 0
      · by_cases h5 : v12_isBetter q v (q.1 13 25 i) t = 0
        · simp only [h4, h5, not_true_eq_false, and_false, if_false, if_true, g12_firstIn_54, bg12_firstIn_54, v12_firstIn_54, bv12_firstIn_54, cnsucc, cntk (i := i) (by omega), if_neg cn01, if_pos cnm1]
          repeat' first
            | with_reducible exact hi
            | with_reducible exact hi'
            | with_reducible exact gs
            | with_reducible exact gt
            | with_reducible exact ga
            | with_reducible exact gb _ _ _
            | with_reducible exact k2.1.1
            | with_reducible exact k2.1.2
            | with_reducible exact k2.2
            | exact trivial
            | exact not_false
            | (split <;> rename_i h9 <;> first | simp only [if_neg h9, if_true, if_false] | simp only [if_pos h9, if_true, if_false] | skip)
            | apply And.intro
        · simp only [h4, h5, not_false_eq_true, and_true, if_false, if_true, g12_firstIn_54, bg12_firstIn_54, v12_firstIn_54, bv12_firstIn_54, cnsucc, cntk (i := i) (by omega), if_neg cn01, if_pos cnm1, if_pos cn0e']
          repeat' first
            | with_reducible exact hi
            | with_reducible exact hi'
            | with_reducible exact gs
            | with_reducible exact gt
            | with_reducible exact ga
            | with_reducible exact gb _ _ _
            | with_reducible exact k1.1.1
            | with_reducible exact k1.1.2
            | with_reducible exact k1.2
            | exact trivial
            | exact not_false
            | (split <;> rename_i h9 <;> first | simp only [if_neg h9, if_true, if_false] | simp only [if_pos h9, if_true, if_false] | skip)
            | apply And.intro
      · simp only [h4, false_and, if_false, if_true, g12_firstIn_54, bg12_firstIn_54, v12_firstIn_54, bv12_firstIn_54, cnsucc, cntk (i := i) (by omega), if_neg cn01, if_pos cnm1]
        repeat' first
          | with_reducible exact hi
          | with_reducible exact hi'
          | with_reducible exact gs
          | with_reducible exact gt
          | with_reducible exact ga
          | with_reducible exact gb _ _ _
          | with_reducible exact k2.1.1
          | with_reducible exact k2.1.2
          | with_reducible exact k2.2
          | exact trivial
          | exact not_false
          | (split <;> rename_i h9 <;> first | simp only [if_neg h9, if_true, if_false] | simp only [if_pos h9, if_true, if_false] | skip)
          | apply And.intro
    · have hj := cninb (i := j) (n := 44) (by omega) (by omega)
      have hzj : ¬ j + 1 = 0 := by omega
      obtain ⟨_, hst', et', -, -, a', r', s', z', w', hL', hB'⟩ := there_inv hb j1 (H.1 j j1) (in_there j1 j4 j5)
      have hnp' := hn j j1 ⟨j4, hst'⟩ j5.2.1
      have eturn : (p.1 10 (i + 1) 12 < p.1 10 (j + 1) 12) = (q.1 13 23 i < q.1 13 23 j) := (HT.1 i j (by omega) j1 ⟨hl, hst⟩ ⟨j4, hst'⟩ (by rw [hbk, j5.2.1]) (by rw [et, et'])).1
      have bt := fun a b => b_better q a b t
      have e5 := hL.2.2.2.2.1.1
      rcases hL.2.2.2.2.2.1 with ⟨l1, ⟨l2, l3⟩ | ⟨l2, l3, l4⟩⟩
      · rcases hL'.2.2.2.2.2.1 with ⟨m1, ⟨m2, m3⟩ | ⟨m2, m3, m4⟩⟩
        · simp only [l2, m2, l1, m1, l3, m3, cn1F, false_and, if_false, if_true, g12_firstIn_54, bg12_firstIn_54, v12_firstIn_54, bv12_firstIn_54, cnsucc, cntk (i := i) (by omega), g12_firstIn_134, bg12_firstIn_134, v12_firstIn_134, bv12_firstIn_134, g8_comesBefore, bg8_comesBefore, v8_comesBefore, bv8_comesBefore, if_neg (cnge (j := j) (by omega)), cntk (i := j) (by omega), cntk (i := i) (by omega), s1F, eturn, ite_z, cn0T]
          repeat' first
            | with_reducible exact hi
            | with_reducible exact hi'
            | with_reducible exact hj
            | with_reducible exact hz
            | with_reducible exact hzj
            | with_reducible exact gs
            | with_reducible exact gt
            | with_reducible exact ga
            | with_reducible exact gb _ _ _
            | with_reducible exact k1.1.1
            | with_reducible exact k1.1.2
            | with_reducible exact k1.2
            | with_reducible exact k2.1.1
            | with_reducible exact k2.1.2
            | with_reducible exact k2.2
            | exact trivial
            | exact not_false
            | (split <;> rename_i h9 <;> first | simp only [if_neg h9, if_true, if_false] | simp only [if_pos h9, if_true, if_false] | skip)
            | apply And.intro
        · have hne : ¬ cn (-100000) = cn z' := fun h => pr_ne m3 h.symm
          simp only [l2, m2, l1, m1, l3, cn1F, cn0T, false_and, if_false, if_true, g12_firstIn_54, bg12_firstIn_54, v12_firstIn_54, bv12_firstIn_54, cnsucc, cntk (i := i) (by omega), g8_comesBefore, bg8_comesBefore, v8_comesBefore, bv8_comesBefore, if_neg (cnge (j := j) (by omega)), cntk (i := j) (by omega), cntk (i := i) (by omega), s1F, if_neg hne, ite_z]
          repeat' first
            | with_reducible exact hi
            | with_reducible exact hi'
            | with_reducible exact hj
            | with_reducible exact hz
            | with_reducible exact hzj
            | with_reducible exact gs
            | with_reducible exact gt
            | with_reducible exact ga
            | with_reducible exact gb _ _ _
            | with_reducible exact k2.1.1
            | with_reducible exact k2.1.2
            | with_reducible exact k2.2
            | exact trivial
            | exact not_false
            | (split <;> rename_i h9 <;> first | simp only [if_neg h9, if_true, if_false] | simp only [if_pos h9, if_true, if_false] | skip)
            | apply And.intro
      · have ew : w = z := by
          rcases hB.2.1 with ⟨g1, -⟩ | ⟨-, -, -, g4⟩
          · rw [g1] at l2
            exact absurd l2 (by decide)
          · exact g4.resolve_left hnp
        have eat : q.1 13 25 i = cn z := by
          rcases hB.2.1 with ⟨g1, -⟩ | ⟨-, -, g3, -⟩
          · rw [g1] at l2
            exact absurd l2 (by decide)
          · rw [g3, ew]
        rcases hL'.2.2.2.2.2.1 with ⟨m1, ⟨m2, m3⟩ | ⟨m2, m3, m4⟩⟩
        · have hne : ¬ cn z = cn (-100000) := pr_ne l3
          have h01 : (cn 0 = cn 1) = False := eq_false (by decide)
          by_cases h5 : v12_isBetter q v (cn z) t = 0
          · simp only [l2, m2, l1, m1, m3, eat, h5, h01, cn1F, cn0T, not_true_eq_false, and_false, if_false, if_true, g12_firstIn_54, bg12_firstIn_54, v12_firstIn_54, bv12_firstIn_54, cnsucc, cntk (i := i) (by omega), g8_comesBefore, bg8_comesBefore, v8_comesBefore, bv8_comesBefore, if_neg (cnge (j := j) (by omega)), cntk (i := j) (by omega), cntk (i := i) (by omega), s1F, if_neg hne, ite_z]
            repeat' first
              | with_reducible exact hi
              | with_reducible exact hi'
              | with_reducible exact hj
              | with_reducible exact hz
              | with_reducible exact hzj
              | with_reducible exact gs
              | with_reducible exact gt
              | with_reducible exact ga
              | with_reducible exact gb _ _ _
              | with_reducible exact k1.1.1
              | with_reducible exact k1.1.2
              | with_reducible exact k1.2
              | exact trivial
              | exact not_false
              | (split <;> rename_i h9 <;> first | simp only [if_neg h9, if_true, if_false] | simp only [if_pos h9, if_true, if_false] | skip)
              | apply And.intro
          · simp only [l2, eat, h5, cn1F, cn0T, not_false_eq_true, and_self, if_false, if_true, g12_firstIn_54, bg12_firstIn_54, v12_firstIn_54, bv12_firstIn_54, cnsucc, cntk (i := i) (by omega)]
            repeat' first
              | with_reducible exact hi
              | with_reducible exact hi'
              | with_reducible exact gs
              | with_reducible exact gt
              | with_reducible exact ga
              | with_reducible exact gb _ _ _
              | with_reducible exact k1.1.1
              | with_reducible exact k1.1.2
              | with_reducible exact k1.2
              | exact trivial
              | exact not_false
              | (split <;> rename_i h9 <;> first | simp only [if_neg h9, if_true, if_false] | simp only [if_pos h9, if_true, if_false] | skip)
              | apply And.intro
        · have ew' : w' = z' := by
            rcases hB'.2.1 with ⟨g1, -⟩ | ⟨-, -, -, g4⟩
            · rw [g1] at m2
              exact absurd m2 (by decide)
            · exact g4.resolve_left hnp'
          have eat' : q.1 13 25 j = cn z' := by
            rcases hB'.2.1 with ⟨g1, -⟩ | ⟨-, -, g3, -⟩
            · rw [g1] at m2
              exact absurd m2 (by decide)
            · rw [g3, ew']
          have hne : ¬ cn z = cn (-100000) := pr_ne l3
          have hne' : ¬ cn z' = cn (-100000) := pr_ne m3
          have gbc := g_betterC p i (cn z) (cn z')
          have ebc : v10_isBetter p (i + 1) (cn z) (cn z') = v12_isBetter q (cn z) (cn z') t := by rw [better_eq p q, e5, et]
          by_cases h5 : v12_isBetter q v (cn z) t = 0
          · by_cases h6 : cn z = cn z'
            · have h7 : v12_isBetter q (cn z) (cn z') t = 0 := by rw [h6]; exact better_irr q _ t
              simp only [l2, m2, l1, m1, eat, eat', h5, h7, if_pos h6, cn1F, cn0T, not_true_eq_false, and_false, if_false, if_true, g12_firstIn_54, bg12_firstIn_54, v12_firstIn_54, bv12_firstIn_54, cnsucc, cntk (i := i) (by omega), g12_firstIn_134, bg12_firstIn_134, v12_firstIn_134, bv12_firstIn_134, g8_comesBefore, bg8_comesBefore, v8_comesBefore, bv8_comesBefore, if_neg (cnge (j := j) (by omega)), cntk (i := j) (by omega), cntk (i := i) (by omega), s1F, eturn, ite_z]
              repeat' first
                | with_reducible exact hi
                | with_reducible exact hi'
                | with_reducible exact hj
                | with_reducible exact hz
                | with_reducible exact hzj
                | with_reducible exact gs
                | with_reducible exact gt
                | with_reducible exact ga
                | with_reducible exact gb _ _ _
                | with_reducible exact gbc
                | with_reducible exact k1.1.1
                | with_reducible exact k1.1.2
                | with_reducible exact k1.2
                | with_reducible exact k2.1.1
                | with_reducible exact k2.1.2
                | with_reducible exact k2.2
                | exact trivial
                | exact not_false
                | (split <;> rename_i h9 <;> first | simp only [if_neg h9, if_true, if_false] | simp only [if_pos h9, if_true, if_false] | skip)
                | apply And.intro
            · simp only [l2, m2, l1, m1, eat, eat', h5, if_neg h6, ebc, cn1F, cn0T, not_true_eq_false, and_false, if_false, if_true, g12_firstIn_54, bg12_firstIn_54, v12_firstIn_54, bv12_firstIn_54, cnsucc, cntk (i := i) (by omega), g12_firstIn_134, bg12_firstIn_134, v12_firstIn_134, bv12_firstIn_134, g8_comesBefore, bg8_comesBefore, v8_comesBefore, bv8_comesBefore, if_neg (cnge (j := j) (by omega)), cntk (i := j) (by omega), cntk (i := i) (by omega), s1F, if_neg hne, if_neg hne', ite_z]
              repeat' first
                | with_reducible exact hi
                | with_reducible exact hi'
                | with_reducible exact hj
                | with_reducible exact hz
                | with_reducible exact hzj
                | with_reducible exact gs
                | with_reducible exact gt
                | with_reducible exact ga
                | with_reducible exact gb _ _ _
                | with_reducible exact gbc
                | with_reducible exact bt _ _
                | with_reducible exact k1.1.1
                | with_reducible exact k1.1.2
                | with_reducible exact k1.2
                | with_reducible exact k2.1.1
                | with_reducible exact k2.1.2
                | with_reducible exact k2.2
                | exact trivial
                | exact not_false
                | (split <;> rename_i h9 <;> first | simp only [if_neg h9, if_true, if_false] | simp only [if_pos h9, if_true, if_false] | skip)
                | apply And.intro
          · simp only [l2, eat, h5, cn1F, cn0T, not_false_eq_true, and_self, if_false, if_true, g12_firstIn_54, bg12_firstIn_54, v12_firstIn_54, bv12_firstIn_54, cnsucc, cntk (i := i) (by omega)]
            repeat' first
              | with_reducible exact hi
              | with_reducible exact hi'
              | with_reducible exact gs
              | with_reducible exact gt
              | with_reducible exact ga
              | with_reducible exact gb _ _ _
              | with_reducible exact k1.1.1
              | with_reducible exact k1.1.2
              | with_reducible exact k1.2
              | exact trivial
              | exact not_false
              | (split <;> rename_i h9 <;> first | simp only [if_neg h9, if_true, if_false] | simp only [if_pos h9, if_true, if_false] | skip)
              | apply And.intro
theorem in_eq {p q : PM} {x y b T : Nat} (hb : b < 6) (H : OR p q x y) (hn : NP q b) (HT : TR p q T) (t v : Int32) : (g8_firstAt p (b + 1) t v ∧ g12_firstIn q (cn b) t v) ∧ ChR q (InP q b t) (v8_firstAt p (b + 1) t v) (v12_firstIn q (cn b) t v) := in_loop hb H hn HT 40 0 FU FU 0 (cn (-1)) rfl (by decide) (by decide) (Or.inl ⟨rfl, rfl⟩)
