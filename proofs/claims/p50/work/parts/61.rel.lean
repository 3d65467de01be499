/-! the two exchanges side by side: p a part of the class's, q the reference's -/
def KindR (k c : Int32) : Prop := (k = cn 0 ∧ c = cn 0) ∨ (k = cn 0 ∧ c = cn 1) ∨ (k = cn 1 ∧ c = cn 2) ∨ (k = cn 2 ∧ c = cn 3) ∨ (k = cn 3 ∧ c = cn 4)
/-- a price of a book -/
def PrB (b : Nat) (z : Int) : Prop := -9999 ≤ z ∧ z ≤ 9999 ∧ (b < 4 → 1 ≤ z)
/-- what caused a stop -/
def CauseR (p q : PM) (i : Nat) : Prop := (p.1 10 (i + 1) 15 = cn (-100000) ∧ q.1 13 28 i = cn (-1)) ∨ ∃ t : Nat, t ≤ 1000000000 ∧ p.1 10 (i + 1) 15 = cn t ∧ q.1 13 28 i = cn t
/-- an order in its book, at the price w (none at any price); y is a book whose orders' shown parts are not looked at -/
def BookedR (p q : PM) (y i b : Nat) (r s z w : Int) : Prop :=
  p.1 10 (i + 1) 7 = cn w ∧ ((q.1 15 5 i = cn 1 ∧ w = -100000) ∨ (q.1 15 5 i = cn 0 ∧ PrB b w ∧ q.1 13 25 i = cn w ∧ (q.1 13 19 i = cn 2 ∨ w = z))) ∧
  (¬ b = y → ∃ h : Int, 0 ≤ h ∧ h ≤ r ∧ h ≤ s ∧ p.1 10 (i + 1) 11 = cn h ∧ ((q.1 13 19 i = cn 1 ∧ q.1 13 22 i = cn h) ∨ (¬ q.1 13 19 i = cn 1 ∧ h = r))) ∧
  (q.1 13 19 i = cn 3 → CauseR p q i)
/-- where a live order is: x is the one that is matched now -/
def StatR (p q : PM) (x y i b : Nat) (r s z : Int) : Prop :=
  (i = x ∧ p.1 10 (i + 1) 2 = cn 2 ∧ (q.1 13 24 i = cn 0 ∨ q.1 13 24 i = cn 2) ∧ p.1 10 (i + 1) 7 = cn (-100000) ∧ (q.1 13 19 i = cn 3 → q.1 13 24 i = cn 0 → CauseR p q i)) ∨
  (¬ i = x ∧ p.1 10 (i + 1) 2 = cn 1 ∧ q.1 13 24 i = cn 1 ∧ ∃ w, BookedR p q y i b r s z w) ∨
  (¬ i = x ∧ p.1 10 (i + 1) 2 = cn 2 ∧ q.1 13 24 i = cn 2 ∧ p.1 10 (i + 1) 7 = cn (-100000) ∧ (q.1 13 19 i = cn 2 ∨ q.1 13 19 i = cn 3))
/-- a live order in place i: of the account a, for the book b, with the rest r, to show s, at the limit z -/
def LV (p q : PM) (x y i a b : Nat) (r s z : Int) : Prop :=
  (a < 8 ∧ q.1 13 15 i = cn a ∧ p.2.2 10 (i + 1) 3 = a + 1) ∧
  (b < 6 ∧ q.1 13 16 i = cn b ∧ p.2.2 10 (i + 1) 4 = b + 1) ∧
  p.1 10 (i + 1) 0 = q.1 13 14 i ∧
  KindR (p.1 10 (i + 1) 1) (q.1 13 19 i) ∧
  (p.1 10 (i + 1) 5 = q.1 15 4 i ∧ b01 (q.1 15 4 i)) ∧
  (p.1 10 (i + 1) 6 = cn z ∧ ((q.1 15 5 i = cn 1 ∧ z = -100000) ∨ (q.1 15 5 i = cn 0 ∧ PrB b z ∧ q.1 13 18 i = cn z))) ∧
  p.1 10 (i + 1) 8 = q.1 13 20 i ∧
  (1 ≤ r ∧ r ≤ 50 ∧ p.1 10 (i + 1) 9 = cn r ∧ q.1 13 17 i = cn r) ∧
  (1 ≤ s ∧ s ≤ 50 ∧ p.1 10 (i + 1) 10 = cn s ∧ q.1 13 21 i = cn s ∧ (q.1 13 19 i = cn 1 ∨ r ≤ s)) ∧
  (q.1 13 19 i = cn 2 → q.1 15 5 i = cn 0 ∧ ∃ o : Int, 0 ≤ o ∧ o ≤ 99 ∧ p.1 10 (i + 1) 13 = cn o ∧ q.1 13 26 i = cn o) ∧
  (q.1 13 19 i = cn 3 → p.1 10 (i + 1) 14 = q.1 13 27 i) ∧
  (p.1 10 (i + 1) 16 = q.1 15 6 i ∧ b01 (q.1 15 6 i)) ∧
  StatR p q x y i b r s z
def SlotR (p q : PM) (x y i : Nat) : Prop := (p.1 10 (i + 1) 2 = cn 0 ∧ q.1 15 3 i = cn 0) ∨ (q.1 15 3 i = cn 1 ∧ ∃ (a b : Nat) (r s z : Int), LV p q x y i a b r s z)
/-- all orders -/
def OR (p q : PM) (x y : Nat) : Prop := (∀ i, i < 40 → SlotR p q x y i) ∧ ∀ i, 40 ≤ i → i < 44 → q.1 15 3 i = cn 0
theorem stands_e (p : PM) (o B : Nat) (t : Int32) : v10_standsIn p o B t = if p.1 10 o 2 = cn 1 ∧ p.2.2 10 o 4 = B ∧ p.1 10 o 5 = t then cn 1 else cn 0 := by
  unfold v10_standsIn bv10_standsIn
  by_cases h1 : p.1 10 o 2 = cn 1
  · by_cases h2 : p.2.2 10 o 4 = B
    · by_cases h3 : p.1 10 o 5 = t
      · rw [if_pos h1, if_pos h2, if_pos h3, if_pos ⟨h1, h2, h3⟩]
      · rw [if_pos h1, if_pos h2, if_neg h3, if_neg fun q => h3 q.2.2]
    · rw [if_pos h1, if_neg h2, if_neg fun q => h2 q.2.1]
  · rw [if_neg h1, if_neg fun q => h1 q.1]
theorem there_e (q : PM) (i : Nat) (hi : i ≤ 2147483647) (B t : Int32) : v12_isThere q (cn i) B t = if q.1 15 3 i = 0 then cn 0 else if q.1 13 24 i = cn 1 ∧ q.1 13 16 i = B ∧ q.1 15 4 i = t then cn 1 else cn 0 := by
  unfold v12_isThere bv12_isThere
  rw [cntk hi]
  by_cases h0 : q.1 15 3 i = 0
  · rw [if_pos h0, if_pos h0]
  rw [if_neg h0, if_neg h0]
  by_cases h1 : q.1 13 24 i = cn 1
  · by_cases h2 : q.1 13 16 i = B
    · by_cases h3 : q.1 15 4 i = t
      · rw [if_pos h1, if_pos h2, if_pos h3, if_pos ⟨h1, h2, h3⟩]
      · rw [if_pos h1, if_pos h2, if_neg h3, if_neg fun q => h3 q.2.2]
    · rw [if_pos h1, if_neg h2, if_neg fun q => h2 q.2.1]
  · rw [if_neg h1, if_neg fun q => h1 q.1]
theorem cn01 : ¬ (cn 1 : Int32) = 0 := by decide
theorem lv_nogone {p q : PM} {x y i a b : Nat} {r s z : Int} (h : LV p q x y i a b r s z) : ¬ p.1 10 (i + 1) 2 = cn 0 := by
  rcases h.2.2.2.2.2.2.2.2.2.2.2.2 with h | h | h <;> rw [h.2.1] <;> decide
theorem slot_dead {p q : PM} {x y i : Nat} (h : SlotR p q x y i) (h0 : q.1 15 3 i = 0) : p.1 10 (i + 1) 2 = cn 0 := by
  rcases h with h | h
  · exact h.1
  · rw [h.1] at h0
    exact absurd h0 cn01
theorem slot_live {p q : PM} {x y i : Nat} (h : SlotR p q x y i) (h0 : ¬ q.1 15 3 i = 0) : q.1 15 3 i = cn 1 ∧ ∃ (a b : Nat) (r s z : Int), LV p q x y i a b r s z := by
  rcases h with h | h
  · exact absurd h.2 h0
  · exact h
/-- gone in the one, not live in the other -/
theorem slot_gone {p q : PM} {x y i : Nat} (h : SlotR p q x y i) : (p.1 10 (i + 1) 2 = cn 0) = (q.1 15 3 i = 0) := by
  refine propext ⟨fun h1 => ?_, slot_dead h⟩
  by_cases h0 : q.1 15 3 i = 0
  · exact h0
  · obtain ⟨_, a, b, r, s, z, h2⟩ := slot_live h h0
    exact absurd h1 (lv_nogone h2)
theorem stands_eq {p q : PM} {x y i b : Nat} (hb : b < 6) (hi : i < 40) (t : Int32) (h : SlotR p q x y i) : v10_standsIn p (i + 1) (b + 1) t = v12_isThere q (cn i) (cn b) t := by
  rw [stands_e, there_e q i (by omega)]
  by_cases h0 : q.1 15 3 i = 0
  · rw [if_pos h0, slot_dead h h0]
    rw [if_neg fun q => absurd q.1 (by decide)]
  · obtain ⟨_, a, b', r, s, z, h1⟩ := slot_live h h0
    rw [if_neg h0]
    obtain ⟨-, ⟨c1, c2, c3⟩, -, -, ⟨c5, -⟩, -, -, -, -, -, -, -, hs⟩ := h1
    rw [c3, c5, c2]
    have e1 : (b' + 1 = b + 1) = ((cn (b' : Int)) = cn (b : Int)) := by
      rw [cneq ⟨by omega, by omega⟩ ⟨by omega, by omega⟩]
      exact propext ⟨fun h => by omega, fun h => by omega⟩
    simp only [e1]
    rcases hs with hs | hs | hs
    · rw [hs.2.1, if_neg fun q => absurd q.1 (by decide)]
      rcases hs.2.2.1 with h9 | h9 <;> rw [h9, if_neg fun q => absurd q.1 (by decide)]
    · rw [hs.2.1, hs.2.2.1]
    · rw [hs.2.1, hs.2.2.1]
/-- what stands in a book -/
theorem there_inv {p q : PM} {x y i b : Nat} (hb : b < 6) (hi : i < 40) {t : Int32} (h : SlotR p q x y i) (h1 : ¬ v12_isThere q (cn i) (cn b) t = 0) : q.1 15 3 i = cn 1 ∧ q.1 13 24 i = cn 1 ∧ q.1 15 4 i = t ∧ ¬ i = x ∧ p.1 10 (i + 1) 2 = cn 1 ∧ ∃ (a : Nat) (r s z w : Int), LV p q x y i a b r s z ∧ BookedR p q y i b r s z w := by
  rw [there_e q i (by omega)] at h1
  by_cases h0 : q.1 15 3 i = 0
  · rw [if_pos h0] at h1
    exact absurd rfl h1
  rw [if_neg h0] at h1
  obtain ⟨hl, a, b', r, s, z, h2⟩ := slot_live h h0
  by_cases h3 : q.1 13 24 i = cn 1 ∧ q.1 13 16 i = cn b ∧ q.1 15 4 i = t
  · obtain ⟨g1, g2, g3⟩ := h3
    have g4 : b' = b := by
      have g5 := h2.2.1
      rw [g5.2.1, cneq ⟨by omega, by omega⟩ ⟨by omega, by omega⟩] at g2
      omega
    subst g4
    rcases h2.2.2.2.2.2.2.2.2.2.2.2.2 with hs | hs | hs
    · rcases hs.2.2.1 with h9 | h9 <;> rw [h9] at g1 <;> exact absurd g1 (by decide)
    · obtain ⟨k1, k2, k3, w, k4⟩ := hs
      exact ⟨hl, g1, g3, k1, k2, a, r, s, z, w, h2, k4⟩
    · rw [hs.2.2.1] at g1
      exact absurd g1 (by decide)
  · rw [if_neg h3] at h1
    exact absurd rfl h1
theorem there_dead {q : PM} {i : Nat} (hi : i ≤ 2147483647) {B t : Int32} (h0 : q.1 15 3 i = cn 0) : v12_isThere q (cn i) B t = 0 := by
  rw [there_e q i hi, if_pos (show q.1 15 3 i = 0 from h0)]
  rfl
theorem better_eq (p q : PM) (o : Nat) (a b : Int32) : v10_isBetter p o a b = v12_isBetter q a b (p.1 10 o 5) := rfl
theorem kind_peg {k c : Int32} (h : KindR k c) : (k = cn 1) = (c = cn 2) := by
  rcases h with h | h | h | h | h <;> rw [h.1, h.2] <;> exact propext (by decide)
theorem kind_stop {k c : Int32} (h : KindR k c) : (k = cn 2) = (c = cn 3) := by
  rcases h with h | h | h | h | h <;> rw [h.1, h.2] <;> exact propext (by decide)
theorem kind_quote {k c : Int32} (h : KindR k c) : (k = cn 3) = (c = cn 4) := by
  rcases h with h | h | h | h | h <;> rw [h.1, h.2] <;> exact propext (by decide)
theorem pr_ne {b : Nat} {z : Int} (h : PrB b z) : ¬ cn z = cn (-100000) := by
  rw [cneq ⟨by have := h.1; omega, by have := h.2.1; omega⟩ ⟨by omega, by omega⟩]
  have := h.1
  omega
theorem any_or {p q : PM} {x y i a b : Nat} {r s z : Int} (h : LV p q x y i a b r s z) : b01 (q.1 15 5 i) := by
  rcases h.2.2.2.2.2.1.2 with h | h
  · exact Or.inr h.1
  · exact Or.inl h.1
theorem cn0e' : (cn 0 : Int32) = 0 := rfl
