/-! one peg gets its price -/
theorem best_in0 {q : PM} {b : Nat} {t : Int32} (hd : ∀ i, 40 ≤ i → i < 44 → q.1 15 3 i = cn 0) : ∀ (d i n : Nat) (acc : Int32), i + d = 44 → d < n → (acc = cn (-100000) ∨ ∃ s, s < 40 ∧ QA q b t acc s) → (v12_bestOf_7 q n (cn b) t (cn 0) acc (cn i) = cn (-100000) ∨ ∃ s, s < 40 ∧ QA q b t (v12_bestOf_7 q n (cn b) t (cn 0) acc (cn i)) s) := by
  intro d
  induction d with
  | zero =>
    intro i n acc h1 h2 hI
    obtain ⟨m, rfl⟩ : ∃ m, n = m + 1 := ⟨n - 1, by omega⟩
    have e : i = 44 := by omega
    subst e
    simp only [ev12_bestOf_7, bv12_bestOf_7, if_neg (show ¬ cn ((44 : Nat) : Int) < cn 44 by decide)]
    exact hI
  | succ d ih =>
    intro i n acc h1 h2 hI
    obtain ⟨m, rfl⟩ : ∃ m, n = m + 1 := ⟨n - 1, by omega⟩
    have k := fun acc hI => ih (i + 1) m acc (by omega) (by omega) hI
    simp only [ev12_bestOf_7, bv12_bestOf_7, if_pos (lpt (i := i) (N := 44) (by omega) (by omega)), cntk (i := i) (by omega), cnsucc, if_pos cn0e']
    by_cases h0 : v12_isThere q (cn i) (cn b) t = 0
    · rw [if_pos h0]
      exact k acc hI
    · rw [if_neg h0]
      have hi40 : i < 40 := by
        by_cases h : i < 40
        · exact h
        · exact absurd (there_dead (by omega) (hd i (by omega) (by omega))) h0
      by_cases ha : q.1 15 5 i = 0
      · rw [if_pos ha]
        have hnew : ∃ s, s < 40 ∧ QA q b t (q.1 13 25 i) s := ⟨i, hi40, at_of (by omega) h0 ha rfl⟩
        repeat' split
        all_goals first
          | exact k _ (Or.inr hnew)
          | exact k _ hI
      · rw [if_neg ha]
        exact k acc hI
/-- a best price is none, or a price of the book -/
theorem best_pr {p q : PM} {lg : Nat → Int32} {x b N T D l : Nat} {f : Nat → Int} (H : WW p q lg x 99 (fun _ => False) N T D l f) (hb : b < 6) (t : Int32) : v12_bestOf q (cn b) t (cn 0) = cn (-100000) ∨ ∃ e : Int, v12_bestOf q (cn b) t (cn 0) = cn e ∧ PrB b e := by
  have k := best_in0 (q := q) (b := b) (t := t) H.1.1.2 44 0 FU (cn (-100000)) rfl (by decide) (Or.inl rfl)
  rcases k with k | ⟨s, hs, k⟩
  · exact Or.inl k
  · obtain ⟨a, r, s', z, h⟩ := qa_inv H hb hs k
    obtain ⟨-, -, -, -, -, -, -, -, -, -, -, ⟨w, w1, w2⟩, -⟩ := h
    exact Or.inr ⟨w, w1, w2⟩
theorem g_max (p : PM) (a b : Int32) : g14_max_7cf53 p a b := by
  unfold g14_max_7cf53 bg14_max_7cf53
  split <;> trivial
theorem max_cn (p : PM) {a b : Int} (ha : rg a) (hb : rg b) : v14_max_7cf53 p (cn a) (cn b) = cn (if a < b then b else a) := by
  unfold v14_max_7cf53 bv14_max_7cf53
  simp only [cnlt ha hb]
  split <;> rfl
theorem g_newT (q : PM) {o : Nat} (ho : o < 44) : g12_newTurn q (cn o) := by
  have hi := cninb (i := o) (n := 44) ho (by omega)
  unfold g12_newTurn bg12_newTurn
  repeat' first
    | with_reducible exact hi
    | exact trivial
    | exact not_false
    | apply And.intro
    | (split <;> rename_i h9 <;> first | simp only [if_neg h9, if_true, if_false] | simp only [if_pos h9, if_true, if_false] | skip)
/-- the price a peg is to have: none, or v -/
noncomputable def pgR (q : PM) (j b : Nat) (v : Int) : PM := if v12_isPrice q (cn b) (cn v) = 0 then pI q 13 24 j (cn 2) else if q.1 13 24 j = cn 1 then (if q.1 13 25 j = cn v then q else v12_newTurn (pI (pI q 13 24 j (cn 1)) 13 25 j (cn v)) (cn j)) else v12_newTurn (pI (pI q 13 24 j (cn 1)) 13 25 j (cn v)) (cn j)
theorem peg_110 {q : PM} {j b : Nat} {v : Int} (hj : j < 40) (hb : b < 6) (hv : -99999 ≤ v ∧ v ≤ 99999) (gp : g12_isPrice q (cn b) (cn v)) : v12_pegs_110 q (cn j) (cn b) (cn v) = pgR q j b v ∧ g12_pegs_110 q (cn j) (cn b) (cn v) := by
  have hi := cninb (i := j) (n := 44) (by omega) (by omega)
  have hn : ¬ cn v = cn (-100000) := by
    rw [cneq ⟨by omega, by omega⟩ (by decide)]
    omega
  have gt : ∀ q, g12_newTurn q (cn j) := fun q => g_newT q (by omega)
  unfold v12_pegs_110 bv12_pegs_110 g12_pegs_110 bg12_pegs_110 pgR
  simp only [if_neg hn, cntk (i := j) (by omega)]
  refine ⟨trivial, gp, ?_⟩
  repeat' first
    | with_reducible exact hi
    | with_reducible exact gt _
    | exact trivial
    | exact not_false
    | apply And.intro
    | (split <;> rename_i h9 <;> first | simp only [if_neg h9, if_true, if_false] | simp only [if_pos h9, if_true, if_false] | skip)
theorem peg_none {q : PM} {j b : Nat} (hj : j < 40) (B : Int32) : v12_pegs_72 q (cn j) B (cn (-100000)) = pI q 13 24 j (cn 2) ∧ g12_pegs_72 q (cn j) B (cn (-100000)) := by
  have hi := cninb (i := j) (n := 44) (by omega) (by omega)
  have he : cn (-100000) = cn (-100000) := rfl
  unfold v12_pegs_72 bv12_pegs_72 g12_pegs_72 bg12_pegs_72 v12_pegs_110 bv12_pegs_110 g12_pegs_110 bg12_pegs_110
  simp only [if_pos he, cntk (i := j) (by omega), if_true]
  exact ⟨trivial, hi, trivial⟩
/-- with a limit z -/
theorem peg_72 {q : PM} {j b : Nat} {s z : Int} (hj : j < 40) (hb : b < 6) (hs : -99999 ≤ s ∧ s ≤ 99999) (hz : PrB b z) (h18 : q.1 13 18 j = cn z) (gp : ∀ v, g12_isPrice q (cn b) v) : v12_pegs_72 q (cn j) (cn b) (cn s) = pgR q j b (if q.1 15 4 j = 0 then (if s < z then z else s) else (if z < s then z else s)) ∧ g12_pegs_72 q (cn j) (cn b) (cn s) := by
  have hi := cninb (i := j) (n := 44) (by omega) (by omega)
  have hn : ¬ cn s = cn (-100000) := by
    rw [cneq ⟨by omega, by omega⟩ (by decide)]
    omega
  have z1 := hz.1
  have z2 := hz.2.1
  have hnz := pr_ne hz
  have gt : ∀ q, g12_newTurn q (cn j) := fun q => g_newT q (by omega)
  have gb := g_better q (cn s) (cn z) (q.1 15 4 j)
  obtain ⟨k1, k2⟩ := peg_110 (q := q) hj hb hs (gp _)
  have eb : (v12_isBetter q (cn s) (cn z) (q.1 15 4 j) = 0) = ¬ (if q.1 15 4 j = 0 then s < z else z < s) := by
    unfold v12_isBetter bv12_isBetter
    by_cases e : q.1 15 4 j = 0
    · simp only [if_pos e, cnlt (a := s) (b := z) ⟨by omega, by omega⟩ ⟨by omega, by omega⟩]
      by_cases e2 : s < z
      · rw [if_pos e2]
        exact propext ⟨fun h => absurd h cn01, fun h => absurd e2 h⟩
      · rw [if_neg e2]
        exact propext ⟨fun _ => e2, fun _ => rfl⟩
    · simp only [if_neg e, cnlt (a := z) (b := s) ⟨by omega, by omega⟩ ⟨by omega, by omega⟩]
      by_cases e2 : z < s
      · rw [if_pos e2]
        exact propext ⟨fun h => absurd h cn01, fun h => absurd e2 h⟩
      · rw [if_neg e2]
        exact propext ⟨fun _ => e2, fun _ => rfl⟩
  unfold v12_pegs_72 bv12_pegs_72 g12_pegs_72 bg12_pegs_72
  simp only [if_neg hn, cntk (i := j) (by omega), h18]
  by_cases e0 : v12_isBetter q (cn s) (cn z) (q.1 15 4 j) = 0
  · have e1 : ¬ (if q.1 15 4 j = 0 then s < z else z < s) := by
      rw [← eb]
      exact e0
    have e2 : (if q.1 15 4 j = 0 then (if s < z then z else s) else (if z < s then z else s)) = s := by
      by_cases e : q.1 15 4 j = 0
      · rw [if_pos e] at e1
        rw [if_pos e, if_neg e1]
      · rw [if_neg e] at e1
        rw [if_neg e, if_neg e1]
    simp only [if_pos e0, e2]
    exact ⟨k1, hi, hi, gb, k2⟩
  · have e1 : (if q.1 15 4 j = 0 then s < z else z < s) := by
      rw [eb] at e0
      exact Classical.not_not.mp e0
    have e2 : (if q.1 15 4 j = 0 then (if s < z then z else s) else (if z < s then z else s)) = z := by
      by_cases e : q.1 15 4 j = 0
      · rw [if_pos e] at e1
        rw [if_pos e, if_pos e1]
      · rw [if_neg e] at e1
        rw [if_neg e, if_pos e1]
    simp only [if_neg e0, e2, if_neg hnz]
    unfold pgR
    refine ⟨rfl, hi, hi, gb, hi, gp _, ?_⟩
    repeat' first
      | with_reducible exact hi
      | with_reducible exact gt _
      | exact trivial
      | exact not_false
      | apply And.intro
      | (split <;> rename_i h9 <;> first | simp only [if_neg h9, if_true, if_false] | simp only [if_pos h9, if_true, if_false] | skip)
