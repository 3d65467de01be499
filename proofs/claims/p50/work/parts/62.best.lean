/-! the best price of a side -/
theorem g_there {q : PM} {i : Nat} (hi : i < 44) (B t : Int32) : g12_isThere q (cn i) B t := by
  have h := cninb hi (by omega)
  unfold g12_isThere bg12_isThere
  repeat' first
    | exact trivial
    | exact h
    | apply And.intro
    | split
theorem g_better (q : PM) (a b t : Int32) : g12_isBetter q a b t := by
  unfold g12_isBetter bg12_isBetter
  repeat' first
    | exact trivial
    | split
theorem g_stands (p : PM) (i B : Nat) (t : Int32) : g10_standsIn p (i + 1) B t := by
  have h : ¬ i + 1 = 0 := by omega
  unfold g10_standsIn bg10_standsIn
  repeat' first
    | exact trivial
    | exact h
    | apply And.intro
    | split
theorem g_betterC (p : PM) (i : Nat) (a b : Int32) : g10_isBetter p (i + 1) a b := by
  have h : ¬ i + 1 = 0 := by omega
  unfold g10_isBetter bg10_isBetter
  repeat' first
    | exact trivial
    | exact h
    | apply And.intro
    | split
theorem gbest_q {q : PM} {B t g : Int32} : ∀ (d i n : Nat) (acc : Int32), i + d = 44 → d < n → g12_bestOf_7 q n B t g acc (cn i) := by
  intro d
  induction d with
  | zero =>
    intro i n acc h1 h2
    obtain ⟨m, rfl⟩ : ∃ m, n = m + 1 := ⟨n - 1, by omega⟩
    rw [eg12_bestOf_7]
    unfold bg12_bestOf_7
    rw [if_neg (lpf (N := 44) (by omega) (by omega) (by omega))]
    exact trivial
  | succ d ih =>
    intro i n acc h1 h2
    obtain ⟨m, rfl⟩ : ∃ m, n = m + 1 := ⟨n - 1, by omega⟩
    have hi := cninb (i := i) (n := 44) (by omega) (by omega)
    have ih2 : ∀ a, g12_bestOf_7 q m B t g a (cn i + cn 1) := fun a => by rw [cnsucc]; exact ih (i + 1) m a (by omega) (by omega)
    rw [eg12_bestOf_7]
    unfold bg12_bestOf_7
    rw [if_pos (lpt (N := 44) (by omega) (by omega))]
    repeat' first
      | exact trivial
      | exact hi
      | exact ih2 _
      | exact g_there (by omega) _ _
      | exact g_better _ _ _ _
      | apply And.intro
      | split
theorem gbest_p {p : PM} {B : Nat} {t g : Int32} : ∀ (d i n : Nat) (acc : Int32), i + d = 40 → d < n → g6_bestPrice_18 p n B t g acc (cn i) := by
  intro d
  induction d with
  | zero =>
    intro i n acc h1 h2
    obtain ⟨m, rfl⟩ : ∃ m, n = m + 1 := ⟨n - 1, by omega⟩
    rw [eg6_bestPrice_18]
    unfold bg6_bestPrice_18
    rw [if_neg (lpf (N := 40) (by omega) (by omega) (by omega))]
    exact trivial
  | succ d ih =>
    intro i n acc h1 h2
    obtain ⟨m, rfl⟩ : ∃ m, n = m + 1 := ⟨n - 1, by omega⟩
    have hi := cninb (i := i) (n := 40) (by omega) (by omega)
    have hz : ¬ i + 1 = 0 := by omega
    have ih2 : ∀ a, g6_bestPrice_18 p m B t g a (cn i + cn 1) := fun a => by rw [cnsucc]; exact ih (i + 1) m a (by omega) (by omega)
    rw [eg6_bestPrice_18]
    unfold bg6_bestPrice_18
    rw [if_pos (lpt (N := 40) (by omega) (by omega)), cntk (by omega)]
    repeat' first
      | exact trivial
      | exact hi
      | exact hz
      | exact ih2 _
      | exact g_stands _ _ _ _
      | exact g_betterC _ _ _ _
      | apply And.intro
      | split
theorem best_tail {q : PM} {B t g : Int32} (hd : ∀ i, 40 ≤ i → i < 44 → q.1 15 3 i = cn 0) : ∀ (d i n : Nat) (acc : Int32), i + d = 44 → 40 ≤ i → d < n → v12_bestOf_7 q n B t g acc (cn i) = acc := by
  intro d
  induction d with
  | zero =>
    intro i n acc h1 h0 h2
    obtain ⟨m, rfl⟩ : ∃ m, n = m + 1 := ⟨n - 1, by omega⟩
    rw [ev12_bestOf_7]
    unfold bv12_bestOf_7
    rw [if_neg (lpf (N := 44) (by omega) (by omega) (by omega))]
  | succ d ih =>
    intro i n acc h1 h0 h2
    obtain ⟨m, rfl⟩ : ∃ m, n = m + 1 := ⟨n - 1, by omega⟩
    rw [ev12_bestOf_7]
    unfold bv12_bestOf_7
    rw [if_pos (lpt (N := 44) (by omega) (by omega)), if_pos (there_dead (by omega) (hd i h0 (by omega))), cnsucc]
    exact ih (i + 1) m acc (by omega) (by omega) (by omega)
theorem best_loop {p q : PM} {x y b : Nat} {t g : Int32} (hb : b < 6) (H : OR p q x y) : ∀ (d i n n' : Nat) (acc : Int32), i + d = 40 → d < n → d + 4 < n' → v6_bestPrice_18 p n (b + 1) t g acc (cn i) = v12_bestOf_7 q n' (cn b) t g acc (cn i) := by
  intro d
  induction d with
  | zero =>
    intro i n n' acc h1 h2 h3
    obtain ⟨m, rfl⟩ : ∃ m, n = m + 1 := ⟨n - 1, by omega⟩
    rw [best_tail H.2 4 i n' acc (by omega) (by omega) (by omega), ev6_bestPrice_18]
    unfold bv6_bestPrice_18
    rw [if_neg (lpf (N := 40) (by omega) (by omega) (by omega))]
  | succ d ih =>
    intro i n n' acc h1 h2 h3
    obtain ⟨m, rfl⟩ : ∃ m, n = m + 1 := ⟨n - 1, by omega⟩
    obtain ⟨m', rfl⟩ : ∃ m, n' = m + 1 := ⟨n' - 1, by omega⟩
    have hS := H.1 i (by omega)
    have ih2 : ∀ a, v6_bestPrice_18 p m (b + 1) t g a (cn i + cn 1) = v12_bestOf_7 q m' (cn b) t g a (cn i + cn 1) := fun a => by rw [cnsucc]; exact ih (i + 1) m m' a (by omega) (by omega) (by omega)
    rw [ev6_bestPrice_18, ev12_bestOf_7]
    unfold bv6_bestPrice_18 bv12_bestOf_7
    rw [if_pos (lpt (N := 40) (by omega) (by omega)), if_pos (lpt (N := 44) (by omega) (by omega)), cntk (by omega), stands_eq hb (by omega) t hS]
    by_cases h0 : v12_isThere q (cn i) (cn b) t = 0
    · rw [if_pos h0, if_pos h0]
      exact ih2 _
    rw [if_neg h0, if_neg h0]
    obtain ⟨-, -, et, -, -, a, r, s, z, w, hL, hB⟩ := there_inv hb (by omega) hS h0
    have ek := kind_peg hL.2.2.2.1
    have e5 := hL.2.2.2.2.1.1
    simp only [better_eq p q, e5, et, ek]
    rcases hB.2.1 with ⟨k1, k2⟩ | ⟨k1, k2, k3, k4⟩
    · rw [k1, hB.1, k2, if_pos rfl, if_neg cn01]
      exact ih2 _
    · rw [k1, hB.1, k3, if_neg (pr_ne k2), if_pos cn0e']
      by_cases h1 : g = 0
      · simp only [if_pos h1]
        by_cases h2 : q.1 13 19 i = cn 2
        · simp only [if_pos h2]
          exact ih2 _
        · simp only [if_neg h2]
          by_cases h3 : acc = cn (-100000)
          · simp only [if_pos h3]
            exact ih2 _
          · simp only [if_neg h3]
            by_cases h4 : v12_isBetter q (cn w) acc t = 0
            · simp only [if_pos h4]
              exact ih2 _
            · simp only [if_neg h4]
              exact ih2 _
      · simp only [if_neg h1]
        by_cases h3 : acc = cn (-100000)
        · simp only [if_pos h3]
          exact ih2 _
        · simp only [if_neg h3]
          by_cases h4 : v12_isBetter q (cn w) acc t = 0
          · simp only [if_pos h4]
            exact ih2 _
          · simp only [if_neg h4]
            exact ih2 _
theorem best_eq {p q : PM} {x y b : Nat} (hb : b < 6) (H : OR p q x y) (t g : Int32) : v6_bestPrice p (b + 1) t g = v12_bestOf q (cn b) t g := best_loop hb H 40 0 FU FU (cn (-100000)) rfl (by decide) (by decide)
theorem g_bestP (p : PM) (B : Nat) (t g : Int32) : g6_bestPrice p B t g := gbest_p 40 0 FU (cn (-100000)) rfl (by decide)
theorem g_bestQ (q : PM) (B t g : Int32) : g12_bestOf q B t g := gbest_q 44 0 FU (cn (-100000)) rfl (by decide)
