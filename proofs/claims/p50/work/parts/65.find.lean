/-! orders by number; the stop that is due; the next peg -/
theorem ch_inb {q : PM} {P : Nat → Prop} {o : Nat} {c : Int32} (h : ChR q P o c) (h0 : ¬ c < 0) : inb c 44 ∧ ¬ o = 0 := by
  rcases h with ⟨-, rfl⟩ | ⟨j, j1, rfl, rfl, -⟩
  · exact absurd cnm1 h0
  · exact ⟨cninb (by omega) (by omega), by omega⟩
theorem ch_z {q : PM} {P : Nat → Prop} {o : Nat} {c : Int32} (h : ChR q P o c) : (o = 0) = (c < 0) := by
  rcases h with ⟨rfl, rfl⟩ | ⟨j, j1, rfl, rfl, -⟩
  · exact propext ⟨fun _ => cnm1, fun _ => rfl⟩
  · exact propext ⟨fun h => by omega, fun h => absurd h (cnge (by omega))⟩
/-- by number -/
theorem place_tail {q : PM} {v : Int32} (k : Nat) (hd : ∀ i, k ≤ i → i < 44 → q.1 15 3 i = cn 1 → ¬ q.1 13 14 i = v) (hb : ∀ i, i < 44 → b01 (q.1 15 3 i)) : ∀ (d i n : Nat) (acc : Int32), i + d = 44 → k ≤ i → d < n → g12_placeOf_4 q n v acc (cn i) ∧ v12_placeOf_4 q n v acc (cn i) = acc := by
  intro d
  induction d with
  | zero =>
    intro i n acc h1 h0 h2
    obtain ⟨m, rfl⟩ : ∃ m, n = m + 1 := ⟨n - 1, by omega⟩
    simp only [eg12_placeOf_4, ev12_placeOf_4, bg12_placeOf_4, bv12_placeOf_4, if_neg (lpf (i := i) (N := 44) (by omega) (by omega) (by omega)), and_self]
  | succ d ih =>
    intro i n acc h1 h0 h2
    obtain ⟨m, rfl⟩ : ∃ m, n = m + 1 := ⟨n - 1, by omega⟩
    have hi := cninb (i := i) (n := 44) (by omega) (by omega)
    simp only [eg12_placeOf_4, ev12_placeOf_4, bg12_placeOf_4, bv12_placeOf_4, if_pos (lpt (i := i) (N := 44) (by omega) (by omega)), cntk (i := i) (by omega), cnsucc]
    have k1 := ih (i + 1) m acc (by omega) (by omega) (by omega)
    by_cases h3 : q.1 15 3 i = 0
    · simp only [if_pos h3]
      exact ⟨⟨hi, k1.1⟩, k1.2⟩
    · simp only [if_neg h3, if_neg (hd i h0 (by omega) (b_ne (hb i (by omega)) h3))]
      exact ⟨⟨hi, hi, k1.1⟩, k1.2⟩
theorem or_b {p q : PM} {x y : Nat} (H : OR p q x y) : ∀ i, i < 44 → b01 (q.1 15 3 i) := by
  intro i hi
  by_cases h : i < 40
  · rcases H.1 i h with h | h
    · exact Or.inl h.2
    · exact Or.inr h.1
  · exact Or.inl (H.2 i (by omega) hi)
theorem find_loop {p q : PM} {x y N : Nat} {v : Int32} (H : OR p q x y) (hN : NR p q N) : ∀ (d i n n' : Nat), i + d = 40 → d < n → d + 4 < n' → (g6_find_11 p n v (cn i) ∧ g12_placeOf_4 q n' v (cn (-1)) (cn i)) ∧ ChR q (fun j => q.1 13 14 j = v) (v6_find_11 p n v (cn i)) (v12_placeOf_4 q n' v (cn (-1)) (cn i)) := by
  intro d
  induction d with
  | zero =>
    intro i n n' h1 h2 h3
    obtain ⟨m, rfl⟩ : ∃ m, n = m + 1 := ⟨n - 1, by omega⟩
    have k := place_tail (q := q) (v := v) 40 (fun i h4 h5 h6 => absurd (h6.symm.trans (H.2 i h4 h5)) cn01) (or_b H) 4 i n' (cn (-1)) (by omega) (by omega) (by omega)
    simp only [eg6_find_11, ev6_find_11, bg6_find_11, bv6_find_11, if_neg (lpf (i := i) (N := 40) (by omega) (by omega) (by omega))]
    rw [k.2]
    exact ⟨⟨trivial, k.1⟩, Or.inl ⟨rfl, rfl⟩⟩
  | succ d ih =>
    intro i n n' h1 h2 h3
    obtain ⟨m, rfl⟩ : ∃ m, n = m + 1 := ⟨n - 1, by omega⟩
    obtain ⟨m', rfl⟩ : ∃ m, n' = m + 1 := ⟨n' - 1, by omega⟩
    have hi := cninb (i := i) (n := 40) (by omega) (by omega)
    have hi' := cninb (i := i) (n := 44) (by omega) (by omega)
    have hS := H.1 i (by omega)
    have hg : (p.1 10 (i + 1) 2 = 0) = (q.1 15 3 i = 0) := slot_gone hS
    have k := ih (i + 1) m m' (by omega) (by omega) (by omega)
    simp only [eg6_find_11, ev6_find_11, bg6_find_11, bv6_find_11, eg12_placeOf_4, ev12_placeOf_4, bg12_placeOf_4, bv12_placeOf_4, if_pos (lpt (i := i) (N := 44) (by omega) (by omega)), if_pos (lpt (i := i) (N := 40) (by omega) (by omega)), cntk (i := i) (by omega), cnsucc, hg]
    by_cases h4 : q.1 15 3 i = 0
    · simp only [if_pos h4]
      exact ⟨⟨⟨hi, k.1.1⟩, hi', k.1.2⟩, k.2⟩
    · obtain ⟨hl, a, b, r, s, z, hL⟩ := slot_live hS h4
      simp only [if_neg h4, hL.2.2.1]
      by_cases h5 : q.1 13 14 i = v
      · simp only [if_pos h5]
        have k2 := place_tail (q := q) (v := v) (i + 1) (fun j h6 h7 h8 h9 => by
          by_cases h10 : j < 40
          · have := hN.1 i j (by omega) h10 hl h8 (h5.trans h9.symm)
            omega
          · exact absurd (h8.symm.trans (H.2 j (by omega) h7)) cn01) (or_b H) (d + 4) (i + 1) m' (cn i) (by omega) (by omega) (by omega)
        rw [k2.2]
        exact ⟨⟨⟨hi, trivial⟩, hi', hi', k2.1⟩, Or.inr ⟨i, by omega, rfl, rfl, hl, h5⟩⟩
      · simp only [if_neg h5]
        exact ⟨⟨⟨hi, k.1.1⟩, hi', hi', k.1.2⟩, k.2⟩
theorem find_eq {p q : PM} {x y N : Nat} (H : OR p q x y) (hN : NR p q N) (v : Int32) : (g6_find p v ∧ g12_placeOf q v) ∧ ChR q (fun j => q.1 13 14 j = v) (v6_find p v) (v12_placeOf q v) := find_loop H hN 40 0 FU FU rfl (by decide) (by decide)
theorem ite_z {c : Prop} [Decidable c] {a b : Int32} : ((if c then a else b) = (0 : Int32)) = if c then a = 0 else b = 0 := by split <;> rfl
theorem cn1F : (cn 1 = (0 : Int32)) = False := eq_false cn01
theorem cn0T : (cn 0 = (0 : Int32)) = True := eq_true rfl
theorem s1F (j : Nat) : (j + 1 = 0) = False := eq_false (by omega)
/-- the stop that is due -/
def DueP (q : PM) (j : Nat) : Prop := q.1 13 19 j = cn 3 ∧ q.1 13 24 j = cn 2 ∧ ¬ v12_isOpen q (q.1 13 16 j) = 0
theorem ready_tail {q : PM} (hd : ∀ i, 40 ≤ i → i < 44 → q.1 15 3 i = cn 0) : ∀ (d i n : Nat) (acc : Int32), i + d = 44 → 40 ≤ i → d < n → g12_readyStop_4 q n acc (cn i) ∧ v12_readyStop_4 q n acc (cn i) = acc := by
  intro d
  induction d with
  | zero =>
    intro i n acc h1 h0 h2
    obtain ⟨m, rfl⟩ : ∃ m, n = m + 1 := ⟨n - 1, by omega⟩
    simp only [eg12_readyStop_4, ev12_readyStop_4, bg12_readyStop_4, bv12_readyStop_4, if_neg (lpf (i := i) (N := 44) (by omega) (by omega) (by omega)), and_self]
  | succ d ih =>
    intro i n acc h1 h0 h2
    obtain ⟨m, rfl⟩ : ∃ m, n = m + 1 := ⟨n - 1, by omega⟩
    have hi := cninb (i := i) (n := 44) (by omega) (by omega)
    have h3 : q.1 15 3 i = 0 := hd i h0 (by omega)
    simp only [eg12_readyStop_4, ev12_readyStop_4, bg12_readyStop_4, bv12_readyStop_4, if_pos (lpt (i := i) (N := 44) (by omega) (by omega)), cntk (i := i) (by omega), cnsucc, if_pos h3]
    have k1 := ih (i + 1) m acc (by omega) (by omega) (by omega)
    exact ⟨⟨hi, k1.1⟩, k1.2⟩
theorem due_loop {p q : PM} {x y : Nat} (H : OR p q x y) (hx : 40 ≤ x) (hB : BR p q) : ∀ (d i n n' : Nat) (o : Nat) (c : Int32), i + d = 40 → d < n → d + 4 < n' → ChR q (DueP q) o c → (g6_dueStop_13 p n o (cn i) ∧ g12_readyStop_4 q n' c (cn i)) ∧ ChR q (DueP q) (v6_dueStop_13 p n o (cn i)) (v12_readyStop_4 q n' c (cn i)) := by
  intro d
  induction d with
  | zero =>
    intro i n n' o c h1 h2 h3 hc
    obtain ⟨m, rfl⟩ : ∃ m, n = m + 1 := ⟨n - 1, by omega⟩
    have k := ready_tail H.2 4 i n' c (by omega) (by omega) (by omega)
    simp only [eg6_dueStop_13, ev6_dueStop_13, bg6_dueStop_13, bv6_dueStop_13, if_neg (lpf (i := i) (N := 40) (by omega) (by omega) (by omega))]
    rw [k.2]
    exact ⟨⟨trivial, k.1⟩, hc⟩
  | succ d ih =>
    intro i n n' o c h1 h2 h3 hc
    obtain ⟨m, rfl⟩ : ∃ m, n = m + 1 := ⟨n - 1, by omega⟩
    obtain ⟨m', rfl⟩ : ∃ m, n' = m + 1 := ⟨n' - 1, by omega⟩
    have hi := cninb (i := i) (n := 40) (by omega) (by omega)
    have hi' := cninb (i := i) (n := 44) (by omega) (by omega)
    have hz : ¬ i + 1 = 0 := by omega
    have hS := H.1 i (by omega)
    have k := fun o c h => ih (i + 1) m m' o c (by omega) (by omega) (by omega) h
    have k1 := k o c hc
    simp only [eg6_dueStop_13, ev6_dueStop_13, bg6_dueStop_13, bv6_dueStop_13, eg12_readyStop_4, ev12_readyStop_4, bg12_readyStop_4, bv12_readyStop_4, if_pos (lpt (i := i) (N := 44) (by omega) (by omega)), if_pos (lpt (i := i) (N := 40) (by omega) (by omega)), cntk (i := i) (by omega), cnsucc]
    by_cases h0 : q.1 15 3 i = 0
    · have e0 := slot_dead hS h0
      simp only [g10_isDue, bg10_isDue, v10_isDue, bv10_isDue, e0, h0, if_true, show (cn 0 = cn 2) = False from eq_false (by decide), if_false, ite_self, cn0T]
      repeat' first
        | exact hi
        | exact hi'
        | exact hz
        | exact trivial
        | exact not_false
        | exact k1.1.1
        | exact k1.1.2
        | exact k1.2
        | apply And.intro
        | split
    obtain ⟨hl, a, b, r, s, z, hL⟩ := slot_live hS h0
    obtain ⟨-, ⟨b1, b2, b3⟩, e1, hk, ⟨e5, -⟩, -, -, -, -, -, ht, -, hs⟩ := hL
    have ek := kind_stop hk
    have es : (p.1 10 (i + 1) 2 = cn 2) = (q.1 13 24 i = cn 2) := by
      rcases hs with hs | hs | hs
      · exact absurd hs.1 (by omega)
      · rw [hs.2.1, hs.2.2.1]
      · rw [hs.2.1, hs.2.2.1]
    by_cases h4 : q.1 13 19 i = cn 3
    · have et := ht h4
      have eo := open_eq b1 hB
      obtain ⟨z1, -, l1, l2⟩ := (hB b b1).1
      have hbi := cninb (i := b) (n := 6) (by omega) (by omega)
      have gop := g_open (q := q) b1
      have hnew : q.1 13 24 i = cn 2 → ¬ v12_isOpen q (cn b) = 0 → ChR q (DueP q) (i + 1) (cn i) := fun h5 h6 => Or.inr ⟨i, by omega, rfl, rfl, hl, h4, h5, by rw [b2]; exact h6⟩
      have hzb : ¬ b + 1 = 0 := by omega
      rcases hc with ⟨rfl, rfl⟩ | ⟨j, j1, rfl, rfl, j4, j5⟩
      · simp only [g10_isDue, bg10_isDue, v10_isDue, bv10_isDue, ek, es, h4, b2, b3, e5, et, eo, l1, l2, cntk (i := b) (by omega), if_true, if_pos cnm1, ite_z, cn1F, cn0T, ite_not, if_neg h0]
        repeat' first
          | exact hi
          | exact hi'
          | exact hz
          | exact hzb
          | exact hbi
          | exact gop
          | exact trivial
          | exact not_false
          | exact k1.1.1
          | exact k1.1.2
          | exact k1.2
          | exact (k _ _ (hnew (by assumption) (by assumption))).1.1
          | exact (k _ _ (hnew (by assumption) (by assumption))).1.2
          | exact (k _ _ (hnew (by assumption) (by assumption))).2
          | (split <;> rename_i h9 <;> first | simp only [if_neg h9, if_true, if_false] | simp only [if_pos h9, if_true, if_false] | skip)
          | apply And.intro
      · obtain ⟨_, a', b', r', s', z', hL'⟩ := slot_live (H.1 j j1) (by rw [j4]; exact cn01)
        have hj := cninb (i := j) (n := 44) (by omega) (by omega)
        have hzj : ¬ j + 1 = 0 := by omega
        simp only [g10_isDue, bg10_isDue, v10_isDue, bv10_isDue, ek, es, h4, b2, b3, e5, e1, et, eo, l1, l2, hL'.2.2.1, cntk (i := b) (by omega), cntk (i := j) (by omega), if_true, if_neg (cnge (j := j) (by omega)), s1F, if_false, ite_z, cn1F, cn0T, ite_not, if_neg h0]
        repeat' first
          | exact hi
          | exact hi'
          | exact hj
          | exact hz
          | exact hzb
          | exact hzj
          | exact hbi
          | exact gop
          | exact trivial
          | exact not_false
          | exact k1.1.1
          | exact k1.1.2
          | exact k1.2
          | exact (k _ _ (hnew (by assumption) (by assumption))).1.1
          | exact (k _ _ (hnew (by assumption) (by assumption))).1.2
          | exact (k _ _ (hnew (by assumption) (by assumption))).2
          | (split <;> rename_i h9 <;> first | simp only [if_neg h9, if_true, if_false] | simp only [if_pos h9, if_true, if_false] | skip)
          | apply And.intro
    · simp only [g10_isDue, bg10_isDue, v10_isDue, bv10_isDue, ek, h4, if_false, if_neg h0, cn0T, if_true]
      exact ⟨⟨⟨hi, ⟨hz, trivial⟩, k1.1.1⟩, hi', hi', k1.1.2⟩, k1.2⟩
theorem due_eq {p q : PM} {x y : Nat} (H : OR p q x y) (hx : 40 ≤ x) (hB : BR p q) : (g6_dueStop p ∧ g12_readyStop q) ∧ ChR q (DueP q) (v6_dueStop p) (v12_readyStop q) := due_loop H hx hB 40 0 FU FU 0 (cn (-1)) rfl (by decide) (by decide) (Or.inl ⟨rfl, rfl⟩)
