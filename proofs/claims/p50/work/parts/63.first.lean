/-! the order whose turn is first at the best price -/
def stnd (q : PM) (i : Nat) : Prop := q.1 15 3 i = cn 1 ∧ q.1 13 24 i = cn 1
/-- turns: in the same order in both, in each side of each book; T of them were given -/
def TR (p q : PM) (T : Nat) : Prop := (∀ i j, i < 40 → j < 40 → stnd q i → stnd q j → q.1 13 16 i = q.1 13 16 j → q.1 15 4 i = q.1 15 4 j → ((p.1 10 (i + 1) 12 < p.1 10 (j + 1) 12) = (q.1 13 23 i < q.1 13 23 j)) ∧ (q.1 13 23 i = q.1 13 23 j → i = j)) ∧ (∀ i, i < 40 → stnd q i → ∃ t u : Nat, 1 ≤ t ∧ t ≤ T ∧ p.1 10 (i + 1) 12 = cn t ∧ u < T ∧ q.1 13 23 i = cn u) ∧ p.1 6 1 5 = cn T ∧ q.1 12 1 40 = cn T ∧ T ≤ 1000000000
/-- an order of the one, a place of the other -/
def RefR (q : PM) (b : Nat) (t : Int32) (o : Nat) (c : Int32) : Prop := (o = 0 ∧ c = cn (-1)) ∨ ∃ j, j < 40 ∧ o = j + 1 ∧ c = cn j ∧ stnd q j ∧ q.1 13 16 j = cn b ∧ q.1 15 4 j = t
theorem cnm1 : cn (-1) < (0 : Int32) := by decide
theorem cnge {j : Nat} (h : j ≤ 2147483647) : ¬ cn (j : Int) < (0 : Int32) := by
  rw [zcn, cnlt ⟨by omega, by omega⟩ ⟨by omega, by omega⟩]
  omega
theorem at_e (q : PM) (i : Nat) (hi : i ≤ 2147483647) (B t v : Int32) : v12_isAt q (cn i) B t v = if v12_isThere q (cn i) B t = 0 then cn 0 else if q.1 15 5 i = 0 then (if q.1 13 25 i = v then cn 1 else cn 0) else cn 0 := by
  unfold v12_isAt bv12_isAt
  rw [cntk hi]
theorem g_at {q : PM} {i : Nat} (hi : i < 44) (B t v : Int32) : g12_isAt q (cn i) B t v := by
  have h := cninb hi (by omega)
  have h2 := g_there (q := q) hi B t
  unfold g12_isAt bg12_isAt
  repeat' first
    | exact trivial
    | exact h
    | exact h2
    | apply And.intro
    | split
theorem at_dead {q : PM} {i : Nat} (hi : i ≤ 2147483647) {B t v : Int32} (h0 : q.1 15 3 i = cn 0) : v12_isAt q (cn i) B t v = 0 := by
  rw [at_e q i hi, if_pos (there_dead hi h0)]
  rfl
theorem first_tail {q : PM} {B t v : Int32} (hd : ∀ i, 40 ≤ i → i < 44 → q.1 15 3 i = cn 0) : ∀ (d i n : Nat) (acc : Int32), i + d = 44 → 40 ≤ i → d < n → v12_firstOf_27 q n B t v acc (cn i) = acc := by
  intro d
  induction d with
  | zero =>
    intro i n acc h1 h0 h2
    obtain ⟨m, rfl⟩ : ∃ m, n = m + 1 := ⟨n - 1, by omega⟩
    rw [ev12_firstOf_27]
    unfold bv12_firstOf_27
    rw [if_neg (lpf (N := 44) (by omega) (by omega) (by omega))]
  | succ d ih =>
    intro i n acc h1 h0 h2
    obtain ⟨m, rfl⟩ : ∃ m, n = m + 1 := ⟨n - 1, by omega⟩
    rw [ev12_firstOf_27]
    unfold bv12_firstOf_27
    rw [if_pos (lpt (N := 44) (by omega) (by omega)), if_pos (at_dead (by omega) (hd i h0 (by omega))), cnsucc]
    split
    · rfl
    · exact ih (i + 1) m acc (by omega) (by omega) (by omega)
theorem first_none {p : PM} {B : Nat} {t : Int32} : ∀ (d i n : Nat), i + d = 40 → d < n → v6_firstOf_25 p n B t (cn (-100000)) 0 (cn i) = 0 := by
  intro d
  induction d with
  | zero =>
    intro i n h1 h2
    obtain ⟨m, rfl⟩ : ∃ m, n = m + 1 := ⟨n - 1, by omega⟩
    rw [ev6_firstOf_25]
    unfold bv6_firstOf_25
    rw [if_neg (lpf (N := 40) (by omega) (by omega) (by omega))]
  | succ d ih =>
    intro i n h1 h2
    obtain ⟨m, rfl⟩ : ∃ m, n = m + 1 := ⟨n - 1, by omega⟩
    rw [ev6_firstOf_25]
    unfold bv6_firstOf_25
    have ih2 : v6_firstOf_25 p m B t (cn (-100000)) 0 (cn i + cn 1) = 0 := by rw [cnsucc]; exact ih (i + 1) m (by omega) (by omega)
    rw [if_pos (lpt (N := 40) (by omega) (by omega))]
    split
    · exact ih2
    · split
      · rw [if_pos rfl]
        exact ih2
      · exact ih2
theorem first_loop {p q : PM} {x y b T : Nat} {t v : Int32} (hb : b < 6) (H : OR p q x y) (HT : TR p q T) (hv : ¬ v = cn (-100000)) : ∀ (d i n n' : Nat) (o : Nat) (c : Int32), i + d = 40 → d < n → d + 4 < n' → RefR q b t o c → RefR q b t (v6_firstOf_25 p n (b + 1) t v o (cn i)) (v12_firstOf_27 q n' (cn b) t v c (cn i)) := by
  intro d
  induction d with
  | zero =>
    intro i n n' o c h1 h2 h3 hr
    obtain ⟨m, rfl⟩ : ∃ m, n = m + 1 := ⟨n - 1, by omega⟩
    rw [first_tail H.2 4 i n' c (by omega) (by omega) (by omega), ev6_firstOf_25]
    unfold bv6_firstOf_25
    rw [if_neg (lpf (N := 40) (by omega) (by omega) (by omega))]
    exact hr
  | succ d ih =>
    intro i n n' o c h1 h2 h3 hr
    obtain ⟨m, rfl⟩ : ∃ m, n = m + 1 := ⟨n - 1, by omega⟩
    obtain ⟨m', rfl⟩ : ∃ m, n' = m + 1 := ⟨n' - 1, by omega⟩
    have hS := H.1 i (by omega)
    have ih2 : ∀ o c, RefR q b t o c → RefR q b t (v6_firstOf_25 p m (b + 1) t v o (cn i + cn 1)) (v12_firstOf_27 q m' (cn b) t v c (cn i + cn 1)) := fun o c h => by rw [cnsucc]; exact ih (i + 1) m m' o c (by omega) (by omega) (by omega) h
    rw [ev6_firstOf_25, ev12_firstOf_27]
    unfold bv6_firstOf_25 bv12_firstOf_27
    rw [if_pos (lpt (N := 40) (by omega) (by omega)), if_pos (lpt (N := 44) (by omega) (by omega)), cntk (i := i) (by omega), stands_eq hb (by omega) t hS, if_neg hv, if_neg hv, at_e q i (by omega)]
    by_cases h0 : v12_isThere q (cn i) (cn b) t = 0
    · rw [if_pos h0, if_pos h0, if_pos cn0e']
      exact ih2 _ _ hr
    rw [if_neg h0, if_neg h0]
    obtain ⟨el, es, et, -, -, a, r, s, z, w, hL, hB⟩ := there_inv hb (by omega) hS h0
    have ek := kind_peg hL.2.2.2.1
    have hst : stnd q i := ⟨el, es⟩
    have hnew : RefR q b t (i + 1) (cn i) := Or.inr ⟨i, by omega, rfl, rfl, hst, by
      have g1 := there_e q i (by omega) (cn b) t
      by_cases g2 : q.1 13 24 i = cn 1 ∧ q.1 13 16 i = cn b ∧ q.1 15 4 i = t
      · exact g2.2.1
      · rw [g1] at h0
        rw [if_neg g2] at h0
        split at h0 <;> exact absurd rfl h0, et⟩
    simp only [ek]
    rcases hB.2.1 with ⟨k1, k2⟩ | ⟨k1, k2, k3, k4⟩
    · rw [k1, hB.1, k2, if_neg (fun h => hv h.symm), if_neg cn01, if_pos cn0e']
      exact ih2 _ _ hr
    · rw [k1, hB.1, k3, if_pos cn0e']
      by_cases h1 : cn w = v
      · rw [if_pos h1, if_pos h1, if_neg cn01]
        by_cases h2 : q.1 13 19 i = cn 2
        · rw [if_pos h2, if_pos h2]
          exact ih2 _ _ hr
        · rw [if_neg h2, if_neg h2]
          rcases hr with ⟨rfl, rfl⟩ | ⟨j, j1, rfl, rfl, j4, j5, j6⟩
          · rw [if_pos rfl, if_pos cnm1]
            exact ih2 _ _ hnew
          · rw [if_neg (by omega), if_neg (cnge (by omega)), cntk (i := j) (by omega)]
            have hnb : q.1 13 16 i = cn b := by
              rcases hnew with h | ⟨j', -, e1, -, -, e2, -⟩
              · exact absurd h.1 (by omega)
              · have : i = j' := by omega
                subst this
                exact e2
            have e9 := (HT.1 i j (by omega) j1 hst j4 (by rw [hnb, j5]) (by rw [et, j6])).1
            simp only [e9]
            by_cases h5 : q.1 13 23 i < q.1 13 23 j
            · rw [if_pos h5, if_pos h5]
              exact ih2 _ _ hnew
            · rw [if_neg h5, if_neg h5]
              exact ih2 _ _ (Or.inr ⟨j, j1, rfl, rfl, j4, j5, j6⟩)
      · rw [if_neg h1, if_neg h1, if_pos cn0e']
        exact ih2 _ _ hr
theorem firstQ_none {q : PM} {B t : Int32} {n : Nat} : v12_firstOf_27 q (n + 1) B t (cn (-100000)) (cn (-1)) (cn 0) = cn (-1) := by
  rw [ev12_firstOf_27]
  unfold bv12_firstOf_27
  rw [if_pos rfl]
  split <;> rfl
/-- of a book that is open -/
theorem first_eq {p q : PM} {x y b T : Nat} (hb : b < 6) (H : OR p q x y) (HT : TR p q T) (t : Int32) (ho : ¬ v12_isOpen q (cn b) = 0) : RefR q b t (v6_firstOf p (b + 1) t) (v12_firstOf q (cn b) t) := by
  unfold v6_firstOf bv6_firstOf v12_firstOf bv12_firstOf
  rw [if_neg ho, best_eq hb H t (cn 0)]
  by_cases hv : v12_bestOf q (cn b) t (cn 0) = cn (-100000)
  · rw [hv]
    show RefR q b t (v6_firstOf_25 p FU (b + 1) t (cn (-100000)) 0 (cn (0 : Nat))) (v12_firstOf_27 q (99999 + 1) (cn b) t (cn (-100000)) (cn (-1)) (cn 0))
    rw [first_none 40 0 FU rfl (by decide), firstQ_none]
    exact Or.inl ⟨rfl, rfl⟩
  · exact first_loop hb H HT hv 40 0 FU FU 0 (cn (-1)) rfl (by decide) (by decide) (Or.inl ⟨rfl, rfl⟩)
theorem firstQ_shut {q : PM} {b : Nat} (t : Int32) (ho : v12_isOpen q (cn b) = 0) : v12_firstOf q (cn b) t = cn (-1) := by
  unfold v12_firstOf bv12_firstOf
  rw [if_pos ho]
  exact firstQ_none (n := 99999)
