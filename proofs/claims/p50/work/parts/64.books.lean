/-! books, and what is asked of orders by number -/
/-- whether a book is in an auction, and its end, its freeze, its extension -/
def AucR (p q : PM) (b : Nat) : Prop := (p.1 1 (b + 1) 5 = cn 0 ∧ q.1 13 12 b = cn (-100000)) ∨ (p.1 1 (b + 1) 5 = cn 1 ∧ p.1 1 (b + 1) 7 = q.1 13 12 b ∧ (∃ e : Int, 0 ≤ e ∧ e ≤ 1000000 ∧ q.1 13 12 b = cn e) ∧ (∃ f : Int, 0 ≤ f ∧ f ≤ 20 ∧ p.1 1 (b + 1) 8 = cn f ∧ q.1 13 13 b = cn f) ∧ p.1 1 (b + 1) 6 = q.1 15 2 b ∧ b01 (q.1 15 2 b))
def BkR (p q : PM) (b : Nat) : Prop :=
  (∃ z : Int, PrB b z ∧ p.1 1 (b + 1) 3 = cn z ∧ q.1 13 10 b = cn z) ∧
  (∃ z : Int, PrB b z ∧ p.1 1 (b + 1) 4 = cn z ∧ q.1 13 11 b = cn z) ∧
  AucR p q b ∧
  (∃ z : Int, 0 ≤ z ∧ z ≤ 2 ∧ p.1 1 (b + 1) 9 = cn z ∧ q.1 13 6 b = cn z) ∧
  (∃ z : Int, 0 ≤ z ∧ z ≤ 50 ∧ p.1 1 (b + 1) 10 = cn z ∧ q.1 13 7 b = cn z) ∧
  (∃ z : Int, 0 ≤ z ∧ z ≤ 2 ∧ p.1 1 (b + 1) 11 = cn z ∧ q.1 13 8 b = cn z) ∧
  (∃ z : Int, 0 ≤ z ∧ z ≤ 9999 ∧ p.1 1 (b + 1) 12 = cn z ∧ q.1 13 9 b = cn z)
def BR (p q : PM) : Prop := ∀ b, b < 6 → BkR p q b
/-- what the class's objects keep as they are made -/
def CK (p : PM) : Prop := (∀ a, a < 9 → p.1 0 (a + 1) 0 = cn a ∧ p.1 0 (a + 1) 1 = cn (a / 2 : Nat)) ∧ ∀ b, b < 6 → p.1 1 (b + 1) 0 = cn b ∧ p.1 1 (b + 1) 1 = cn (if b < 4 then b else b - 4) ∧ p.1 1 (b + 1) 2 = cn (if b < 4 then -100000 else b - 3)
/-- numbers: N of them were given -/
def NR (p q : PM) (N : Nat) : Prop := (∀ i j, i < 40 → j < 40 → q.1 15 3 i = cn 1 → q.1 15 3 j = cn 1 → q.1 13 14 i = q.1 13 14 j → i = j) ∧ (∀ i, i < 40 → q.1 15 3 i = cn 1 → ∃ n : Nat, n < N ∧ q.1 13 14 i = cn n) ∧ p.1 6 1 4 = cn N ∧ q.1 12 1 39 = cn N ∧ N ≤ 1000000
theorem open_e (q : PM) {b : Nat} (hb : b ≤ 2147483647) : v12_isOpen q (cn b) = if q.1 13 12 b = cn (-100000) then cn 1 else cn 0 := by
  unfold v12_isOpen bv12_isOpen
  rw [cntk hb]
theorem g_open {q : PM} {b : Nat} (hb : b < 6) : g12_isOpen q (cn b) := by
  have h := cninb hb (by omega)
  unfold g12_isOpen bg12_isOpen
  repeat' first
    | exact trivial
    | exact h
    | apply And.intro
    | split
theorem open_eq {p q : PM} {b : Nat} (hb : b < 6) (H : BR p q) : (p.1 1 (b + 1) 5 = 0) = ¬ v12_isOpen q (cn b) = 0 := by
  rw [open_e q (by omega)]
  rcases (H b hb).2.2.1 with ⟨h1, h2⟩ | ⟨h1, -, ⟨e, e1, e2, e3⟩, -⟩
  · rw [h1, h2, if_pos rfl]
    exact propext ⟨fun _ => cn01, fun _ => rfl⟩
  · rw [h1, e3, if_neg (by rw [cneq ⟨by omega, by omega⟩ ⟨by omega, by omega⟩]; omega)]
    exact propext ⟨fun h => absurd h cn01, fun h => absurd rfl h⟩
/-- what is chosen among orders: none, or a live one in both -/
def ChR (q : PM) (P : Nat → Prop) (o : Nat) (c : Int32) : Prop := (o = 0 ∧ c = cn (-1)) ∨ ∃ j, j < 40 ∧ o = j + 1 ∧ c = cn j ∧ q.1 15 3 j = cn 1 ∧ P j
theorem addz (a : Int32) : a + cn 0 = a := by
  rw [cn_of a, cnadd, Int.add_zero]
/-- how many are live -/
theorem live_tail {q : PM} (hd : ∀ i, 40 ≤ i → i < 44 → q.1 15 3 i = cn 0) : ∀ (d i n : Nat) (acc : Int32), i + d = 44 → 40 ≤ i → d < n → v12_live_4 q n acc (cn i) = acc := by
  intro d
  induction d with
  | zero =>
    intro i n acc h1 h0 h2
    obtain ⟨m, rfl⟩ : ∃ m, n = m + 1 := ⟨n - 1, by omega⟩
    rw [ev12_live_4]
    unfold bv12_live_4
    rw [if_neg (lpf (N := 44) (by omega) (by omega) (by omega))]
  | succ d ih =>
    intro i n acc h1 h0 h2
    obtain ⟨m, rfl⟩ : ∃ m, n = m + 1 := ⟨n - 1, by omega⟩
    rw [ev12_live_4]
    unfold bv12_live_4
    rw [if_pos (lpt (N := 44) (by omega) (by omega)), cntk (i := i) (by omega), if_pos (show q.1 15 3 i = 0 from hd i h0 (by omega)), cnsucc, addz]
    exact ih (i + 1) m acc (by omega) (by omega) (by omega)
theorem live_loop {p q : PM} {x y : Nat} (H : OR p q x y) : ∀ (d i n n' : Nat) (acc : Int32), i + d = 40 → d < n → d + 4 < n' → v6_countLive_13 p n acc (cn i) = v12_live_4 q n' acc (cn i) := by
  intro d
  induction d with
  | zero =>
    intro i n n' acc h1 h2 h3
    obtain ⟨m, rfl⟩ : ∃ m, n = m + 1 := ⟨n - 1, by omega⟩
    rw [live_tail H.2 4 i n' acc (by omega) (by omega) (by omega), ev6_countLive_13]
    unfold bv6_countLive_13
    rw [if_neg (lpf (N := 40) (by omega) (by omega) (by omega))]
  | succ d ih =>
    intro i n n' acc h1 h2 h3
    obtain ⟨m, rfl⟩ : ∃ m, n = m + 1 := ⟨n - 1, by omega⟩
    obtain ⟨m', rfl⟩ : ∃ m, n' = m + 1 := ⟨n' - 1, by omega⟩
    have ih2 : ∀ a, v6_countLive_13 p m a (cn i + cn 1) = v12_live_4 q m' a (cn i + cn 1) := fun a => by rw [cnsucc]; exact ih (i + 1) m m' a (by omega) (by omega) (by omega)
    rw [ev6_countLive_13, ev12_live_4]
    unfold bv6_countLive_13 bv12_live_4
    rw [if_pos (lpt (N := 40) (by omega) (by omega)), if_pos (lpt (N := 44) (by omega) (by omega)), cntk (i := i) (by omega)]
    have hg : (p.1 10 (i + 1) 2 = 0) = (q.1 15 3 i = 0) := slot_gone (H.1 i (by omega))
    simp only [hg, addz]
    by_cases h0 : q.1 15 3 i = 0
    · rw [if_pos h0, if_pos h0]
      exact ih2 _
    · rw [if_neg h0, if_neg h0]
      exact ih2 _
theorem live_eq {p q : PM} {x y : Nat} (H : OR p q x y) : v6_countLive p = v12_live q := live_loop H 40 0 FU FU (cn 0) rfl (by decide) (by decide)
theorem gq_live {q : PM} : ∀ (d i n : Nat) (acc : Int32), i + d = 44 → d < n → g12_live_4 q n acc (cn i) := by
  intro d
  induction d with
  | zero =>
    intro i n acc h1 h2
    obtain ⟨m, rfl⟩ : ∃ m, n = m + 1 := ⟨n - 1, by omega⟩
    rw [eg12_live_4]
    unfold bg12_live_4
    rw [if_neg (lpf (N := 44) (by omega) (by omega) (by omega))]
    exact trivial
  | succ d ih =>
    intro i n acc h1 h2
    obtain ⟨m, rfl⟩ : ∃ m, n = m + 1 := ⟨n - 1, by omega⟩
    have hi := cninb (i := i) (n := 44) (by omega) (by omega)
    have ih2 : ∀ a, g12_live_4 q m a (cn i + cn 1) := fun a => by rw [cnsucc]; exact ih (i + 1) m a (by omega) (by omega)
    rw [eg12_live_4]
    unfold bg12_live_4
    rw [if_pos (lpt (N := 44) (by omega) (by omega))]
    repeat' first
      | exact trivial
      | exact hi
      | exact ih2 _
      | apply And.intro
      | split
theorem gp_live {p : PM} : ∀ (d i n : Nat) (acc : Int32), i + d = 40 → d < n → g6_countLive_13 p n acc (cn i) := by
  intro d
  induction d with
  | zero =>
    intro i n acc h1 h2
    obtain ⟨m, rfl⟩ : ∃ m, n = m + 1 := ⟨n - 1, by omega⟩
    rw [eg6_countLive_13]
    unfold bg6_countLive_13
    rw [if_neg (lpf (N := 40) (by omega) (by omega) (by omega))]
    exact trivial
  | succ d ih =>
    intro i n acc h1 h2
    obtain ⟨m, rfl⟩ : ∃ m, n = m + 1 := ⟨n - 1, by omega⟩
    have hi := cninb (i := i) (n := 40) (by omega) (by omega)
    have ih2 : ∀ a, g6_countLive_13 p m a (cn i + cn 1) := fun a => by rw [cnsucc]; exact ih (i + 1) m a (by omega) (by omega)
    rw [eg6_countLive_13]
    unfold bg6_countLive_13
    rw [if_pos (lpt (N := 40) (by omega) (by omega))]
    repeat' first
      | exact trivial
      | exact hi
      | exact ih2 _
      | apply And.intro
      | split
theorem g_liveP (p : PM) : g6_countLive p := gp_live 40 0 FU (cn 0) rfl (by decide)
theorem g_liveQ (q : PM) : g12_live q := gq_live 44 0 FU (cn 0) rfl (by decide)
