/-! protections: quotes are taken away -/
theorem ord_c {p p' q q' : PM} {x y N T : Nat} (h10 : p'.1 10 = p.1 10) (hR : p'.2.2 10 = p.2.2 10) (h6 : p'.1 6 1 4 = p.1 6 1 4) (h65 : p'.1 6 1 5 = p.1 6 1 5) (q13 : ∀ K, 14 ≤ K → K ≤ 28 → q'.1 13 K = q.1 13 K) (q15 : ∀ K, 3 ≤ K → K ≤ 6 → q'.1 15 K = q.1 15 K) (h39 : q'.1 12 1 39 = q.1 12 1 39) (h40 : q'.1 12 1 40 = q.1 12 1 40) (H : ORD p q x y N T) : ORD p' q' x y N T := by
  obtain ⟨ho, hn, ht, hq⟩ := H
  refine ⟨⟨fun i hi => ?_, fun i h1 h2 => by rw [q15 3 (by decide) (by decide)]; exact ho.2 i h1 h2⟩, ?_, ?_, ?_⟩
  · exact slot_congr (fun S => by rw [h10]) (fun S => by rw [hR]) (fun K k1 k2 _ => by rw [q13 K k1 k2]) (fun K k1 k2 => by rw [q15 K k1 k2]) rfl (ho.1 i hi)
  · unfold NR at hn ⊢
    rw [q15 3 (by decide) (by decide), q13 14 (by decide) (by decide), h6, h39]
    exact hn
  · unfold TR stnd at ht ⊢
    rw [q15 3 (by decide) (by decide), q15 4 (by decide) (by decide), q13 16 (by decide) (by decide), q13 23 (by decide) (by decide), q13 24 (by decide) (by decide), h10, h65, h40]
    exact ht
  · unfold QU at hq ⊢
    rw [q15 3 (by decide) (by decide), q15 4 (by decide) (by decide), q13 15 (by decide) (by decide), q13 16 (by decide) (by decide), q13 19 (by decide) (by decide)]
    exact hq
theorem iq_c {q q' : PM} {y D l : Nat} {w : Nat → Prop} (q13 : ∀ K, 14 ≤ K → K ≤ 28 → q'.1 13 K = q.1 13 K) (q15 : ∀ K, 3 ≤ K → K ≤ 6 → q'.1 15 K = q.1 15 K) (h12 : q'.1 13 12 = q.1 13 12) (h30 : q'.1 13 30 = q.1 13 30) (h17 : q'.1 12 1 17 = q.1 12 1 17) (H : IQ q y w D l) : IQ q' y w D l := by
  unfold IQ stnd at H ⊢
  rw [q15 3 (by decide) (by decide), q15 5 (by decide) (by decide), q13 16 (by decide) (by decide), q13 19 (by decide) (by decide), q13 22 (by decide) (by decide), q13 24 (by decide) (by decide), q13 28 (by decide) (by decide), h12, h30, h17]
  exact H
theorem RS_c {q q' : PM} (h15 : q'.1 15 3 = q.1 15 3) (h17 : q'.1 13 17 = q.1 13 17) : RS q' 40 = RS q 40 := RS_same 40 fun i _ => by unfold rs; rw [h15, h17]
theorem fb_c {q q' : PM} {N : Nat} (h15 : q'.1 15 3 = q.1 15 3) (h17 : q'.1 13 17 = q.1 13 17) (h4 : q'.1 13 4 = q.1 13 4) (h12 : q'.1 12 1 95 = q.1 12 1 95) (H : FB q N) : FB q' N := by
  unfold FB at H ⊢
  rw [RS_c h15 h17, h4, h12]
  exact H
/-- the quotes of some accounts are gone, the accounts marked -/
def kq (q : PM) (K : Nat → Bool) : PM := (fun k i s => if k = 15 ∧ i = 3 ∧ s < 44 ∧ q.1 13 19 s = cn 4 ∧ K (q.1 13 15 s).toNatClampNeg = true then cn 0 else if k = 15 ∧ i = 1 ∧ s < 8 ∧ K s = true then cn 1 else q.1 k i s, q.2)
theorem kq_k {q : PM} {K : Nat → Bool} {k : Nat} (h : ¬ k = 15) : (kq q K).1 k = q.1 k := by
  funext i s
  show (if k = 15 ∧ i = 3 ∧ s < 44 ∧ q.1 13 19 s = cn 4 ∧ K (q.1 13 15 s).toNatClampNeg = true then cn 0 else if k = 15 ∧ i = 1 ∧ s < 8 ∧ K s = true then cn 1 else q.1 k i s) = q.1 k i s
  rw [if_neg fun h2 => h h2.1, if_neg fun h2 => h h2.1]
theorem kq_15 {q : PM} {K : Nat → Bool} {i : Nat} (h : ¬ i = 3) (h1 : ¬ i = 1) : (kq q K).1 15 i = q.1 15 i := by
  funext s
  show (if 15 = 15 ∧ i = 3 ∧ s < 44 ∧ q.1 13 19 s = cn 4 ∧ K (q.1 13 15 s).toNatClampNeg = true then cn 0 else if 15 = 15 ∧ i = 1 ∧ s < 8 ∧ K s = true then cn 1 else q.1 15 i s) = q.1 15 i s
  rw [if_neg fun h2 => h h2.2.1, if_neg fun h2 => h1 h2.2.1]
theorem kq_3 {q : PM} {K : Nat → Bool} {s : Nat} : (kq q K).1 15 3 s = if s < 44 ∧ q.1 13 19 s = cn 4 ∧ K (q.1 13 15 s).toNatClampNeg = true then cn 0 else q.1 15 3 s := by
  show (if 15 = 15 ∧ 3 = 3 ∧ s < 44 ∧ q.1 13 19 s = cn 4 ∧ K (q.1 13 15 s).toNatClampNeg = true then cn 0 else if 15 = 15 ∧ 3 = 1 ∧ s < 8 ∧ K s = true then cn 1 else q.1 15 3 s) = _
  by_cases h : s < 44 ∧ q.1 13 19 s = cn 4 ∧ K (q.1 13 15 s).toNatClampNeg = true
  · rw [if_pos h, if_pos ⟨rfl, rfl, h⟩]
  · rw [if_neg h, if_neg fun h2 => h h2.2.2, if_neg fun h2 => absurd h2.2.1 (by decide)]
theorem kq_1 {q : PM} {K : Nat → Bool} {s : Nat} : (kq q K).1 15 1 s = if s < 8 ∧ K s = true then cn 1 else q.1 15 1 s := by
  show (if 15 = 15 ∧ 1 = 3 ∧ s < 44 ∧ q.1 13 19 s = cn 4 ∧ K (q.1 13 15 s).toNatClampNeg = true then cn 0 else if 15 = 15 ∧ 1 = 1 ∧ s < 8 ∧ K s = true then cn 1 else q.1 15 1 s) = _
  rw [if_neg fun h2 => absurd h2.2.1 (by decide)]
  by_cases h : s < 8 ∧ K s = true
  · rw [if_pos h, if_pos ⟨rfl, rfl, h⟩]
  · rw [if_neg h, if_neg fun h2 => h h2.2.2]
theorem pm_ext {q q' : PM} (h1 : ∀ k i s, q'.1 k i s = q.1 k i s) (h2 : q'.2 = q.2) : q' = q := by
  refine Prod.ext ?_ h2
  funext k i s
  exact h1 k i s
theorem kq_kq {q : PM} {K K' : Nat → Bool} : kq (kq q K) K' = kq q (fun c => K c || K' c) := by
  refine pm_ext (fun k i s => ?_) rfl
  by_cases hk : k = 15
  · subst hk
    by_cases h3 : i = 3
    · subst h3
      rw [kq_3, kq_3, kq_3, kq_k (by decide)]
      by_cases a : s < 44 ∧ q.1 13 19 s = cn 4
      · cases hK : K (q.1 13 15 s).toNatClampNeg <;> cases hK' : K' (q.1 13 15 s).toNatClampNeg <;> simp [a]
      · simp only [← and_assoc, a, false_and, if_false]
    · by_cases h1 : i = 1
      · subst h1
        rw [kq_1, kq_1, kq_1]
        by_cases a : s < 8
        · cases hK : K s <;> cases hK' : K' s <;> simp [a]
        · simp only [a, false_and, if_false]
      · rw [kq_15 h3 h1, kq_15 h3 h1, kq_15 h3 h1]
  · rw [kq_k hk, kq_k hk, kq_k hk]
theorem kq_none {q : PM} {K : Nat → Bool} (h : ∀ c, K c = false) : kq q K = q := by
  refine pm_ext (fun k i s => ?_) rfl
  show (if k = 15 ∧ i = 3 ∧ s < 44 ∧ q.1 13 19 s = cn 4 ∧ K (q.1 13 15 s).toNatClampNeg = true then cn 0 else if k = 15 ∧ i = 1 ∧ s < 8 ∧ K s = true then cn 1 else q.1 k i s) = q.1 k i s
  rw [if_neg, if_neg]
  · intro h2
    rw [h] at h2
    exact absurd h2.2.2.2 (by decide)
  · intro h2
    rw [h] at h2
    exact absurd h2.2.2.2.2 (by decide)
/-- the reference's loop -/
theorem g50_loop {B : Int32} : ∀ (d i n : Nat) (q : PM), i + d = 44 → d < n → g12_guards_50 n q B (cn i) ∧ (∀ k j s, ¬ (k = 15 ∧ j = 3 ∧ i ≤ s ∧ s < 44) → (v12_guards_50 n q B (cn i)).1 k j s = q.1 k j s) ∧ (v12_guards_50 n q B (cn i)).2 = q.2 ∧ ∀ s, i ≤ s → s < 44 → (v12_guards_50 n q B (cn i)).1 15 3 s = if q.1 15 3 s = 0 then cn 0 else if q.1 13 15 s = B ∧ q.1 13 19 s = cn 4 then cn 0 else cn 1 := by
  intro d
  induction d with
  | zero =>
    intro i n q h1 h2
    obtain ⟨m, rfl⟩ : ∃ m, n = m + 1 := ⟨n - 1, by omega⟩
    simp only [eg12_guards_50, ev12_guards_50, bg12_guards_50, bv12_guards_50, if_neg (lpf (i := i) (N := 44) (by omega) (by omega) (by omega))]
    exact ⟨trivial, fun _ _ _ _ => trivial, trivial, fun s h3 h4 => by omega⟩
  | succ d ih =>
    intro i n q h1 h2
    obtain ⟨m, rfl⟩ : ∃ m, n = m + 1 := ⟨n - 1, by omega⟩
    have hi := cninb (i := i) (n := 44) (by omega) (by omega)
    have key : ∀ v : Int32, v = (if q.1 15 3 i = 0 then cn 0 else if q.1 13 15 i = B ∧ q.1 13 19 i = cn 4 then cn 0 else cn 1) → (∀ k j s, ¬ (k = 15 ∧ j = 3 ∧ i ≤ s ∧ s < 44) → (v12_guards_50 m (pI q 15 3 i v) B (cn (i + 1 : Nat))).1 k j s = q.1 k j s) ∧ (v12_guards_50 m (pI q 15 3 i v) B (cn (i + 1 : Nat))).2 = q.2 ∧ ∀ s, i ≤ s → s < 44 → (v12_guards_50 m (pI q 15 3 i v) B (cn (i + 1 : Nat))).1 15 3 s = if q.1 15 3 s = 0 then cn 0 else if q.1 13 15 s = B ∧ q.1 13 19 s = cn 4 then cn 0 else cn 1 := by
      intro v hv
      obtain ⟨-, k1, k2, k3⟩ := ih (i + 1) m (pI q 15 3 i v) (by omega) (by omega)
      refine ⟨fun k j s h => ?_, k2, fun s h3 h4 => ?_⟩
      · rw [k1 k j s (by omega), pI_1]
        by_cases e1 : k = 15
        · by_cases e2 : j = 3
          · exact u3_s (by omega)
          · exact u3_i e2
        · exact u3_k e1
      · by_cases e : s = i
        · rw [k1 15 3 s (by omega), e, pI_1, u3_same]
          exact hv
        · rw [k3 s (by omega) h4, pI_1, u3_s e, u3_k (by decide), u3_k (by decide)]
    have g := fun v => (ih (i + 1) m (pI q 15 3 i v) (by omega) (by omega)).1
    simp only [eg12_guards_50, ev12_guards_50, bg12_guards_50, bv12_guards_50, if_pos (lpt (i := i) (N := 44) (by omega) (by omega)), cntk (i := i) (by omega), cnsucc]
    by_cases h3 : q.1 15 3 i = 0
    · simp only [if_pos h3]
      refine ⟨?_, key (cn 0) (by rw [if_pos h3])⟩
      repeat' first
        | with_reducible exact hi
        | with_reducible exact g _
        | exact trivial
        | exact not_false
        | apply And.intro
        | (split <;> rename_i h9 <;> first | simp only [if_neg h9, if_true, if_false] | simp only [if_pos h9, if_true, if_false] | skip)
    · by_cases h4 : q.1 13 15 i = B
      · by_cases h5 : q.1 13 19 i = cn 4
        · simp only [if_neg h3, if_pos h4, if_pos h5]
          refine ⟨?_, key (cn 0) (by rw [if_neg h3, if_pos ⟨h4, h5⟩])⟩
          repeat' first
            | with_reducible exact hi
            | with_reducible exact g _
            | exact trivial
            | exact not_false
            | apply And.intro
            | (split <;> rename_i h9 <;> first | simp only [if_neg h9, if_true, if_false] | simp only [if_pos h9, if_true, if_false] | skip)
        · simp only [if_neg h3, if_pos h4, if_neg h5]
          refine ⟨?_, key (cn 1) (by rw [if_neg h3, if_neg fun q => h5 q.2])⟩
          repeat' first
            | with_reducible exact hi
            | with_reducible exact g _
            | exact trivial
            | exact not_false
            | apply And.intro
            | (split <;> rename_i h9 <;> first | simp only [if_neg h9, if_true, if_false] | simp only [if_pos h9, if_true, if_false] | skip)
      · simp only [if_neg h3, if_neg h4]
        refine ⟨?_, key (cn 1) (by rw [if_neg h3, if_neg fun q => h4 q.1])⟩
        repeat' first
          | with_reducible exact hi
          | with_reducible exact g _
          | exact trivial
          | exact not_false
          | apply And.intro
          | (split <;> rename_i h9 <;> first | simp only [if_neg h9, if_true, if_false] | simp only [if_pos h9, if_true, if_false] | skip)
def tst (q : PM) (o a : Nat) : Bool := decide (q.1 13 19 o = cn 4) && decide (0 < q.1 13 3 a) && !decide (q.1 13 4 a < q.1 13 3 a)
theorem guardQ_e {q : PM} {o a : Nat} (ho : o < 44) (ha : a < 8) (h : q.1 13 15 o = cn a) (hb : ∀ s, s < 44 → b01 (q.1 15 3 s)) (hacc : ∀ s, s < 44 → q.1 15 3 s = cn 1 → ∃ c : Nat, c < 8 ∧ q.1 13 15 s = cn c) : g12_guards q (cn o) ∧ v12_guards q (cn o) = kq q (fun c => decide (c = a) && tst q o a) := by
  have hi := cninb (i := o) (n := 44) ho (by omega)
  have hj := cninb (i := a) (n := 8) ha (by omega)
  have hz : ((0 : Nat) : Int) = 0 := rfl
  obtain ⟨g1, g2, g3, g4⟩ := g50_loop (B := cn a) 44 0 FU (pI q 15 1 a (cn 1)) rfl (by decide)
  rw [hz] at g1 g2 g3 g4
  unfold g12_guards bg12_guards v12_guards bv12_guards
  simp only [cntk (i := o) (by omega), h, cntk (i := a) (by omega)]
  by_cases h1 : q.1 13 19 o = cn 4
  · by_cases h2 : 0 < q.1 13 3 a
    · by_cases h3 : q.1 13 4 a < q.1 13 3 a
      · simp only [if_pos h1, if_pos h2, if_pos h3]
        refine ⟨⟨hi, hi, hj, hj, hj, trivial⟩, ?_⟩
        rw [kq_none]
        intro c
        simp [tst, h3]
      · simp only [if_pos h1, if_pos h2, if_neg h3]
        have ht : tst q o a = true := by simp [tst, h1, h2, h3]
        refine ⟨⟨hi, hi, hj, hj, hj, hj, g1⟩, ?_⟩
        rw [ht]
        refine pm_ext (fun k i s => ?_) g3
        by_cases hk : k = 15 ∧ i = 3 ∧ s < 44
        · obtain ⟨rfl, rfl, hs⟩ := hk
          rw [g4 s (by omega) hs, kq_3, pI_1, u3_i (by decide), u3_k (by decide), u3_k (by decide)]
          rcases hb s hs with h9 | h9
          · rw [if_pos h9]
            split
            · rfl
            · exact h9.symm
          · have h9 : q.1 15 3 s = cn 1 := h9
            obtain ⟨c, c1, c2⟩ := hacc s hs h9
            rw [h9, if_neg cn01, c2, cntk (by omega)]
            by_cases e : c = a
            · rw [e]
              by_cases h8 : q.1 13 19 s = cn 4
              · rw [if_pos ⟨rfl, h8⟩, if_pos ⟨hs, h8, by simp⟩]
              · rw [if_neg fun q => h8 q.2, if_neg fun q => h8 q.2.1]
            · rw [if_neg, if_neg]
              · intro q9
                have := q9.2.2
                simp [e] at this
              · intro q9
                have := q9.1
                rw [cneq ⟨by omega, by omega⟩ ⟨by omega, by omega⟩] at this
                omega
        · rw [g2 k i s (by omega), pI_1]
          by_cases e1 : k = 15
          · subst e1
            by_cases e2 : i = 1
            · subst e2
              rw [kq_1]
              by_cases e3 : s = a
              · rw [e3, u3_same, if_pos ⟨ha, by simp⟩]
              · rw [u3_s e3, if_neg]
                intro q9
                have := q9.2
                simp [e3] at this
            · by_cases e3 : i = 3
              · subst e3
                rw [u3_i (by decide), kq_3, if_neg fun q9 => hk ⟨rfl, rfl, q9.1⟩]
              · rw [u3_i e2, kq_15 e3 e2]
          · rw [u3_k e1, kq_k e1]
    · simp only [if_pos h1, if_neg h2]
      refine ⟨⟨hi, hi, hj, trivial⟩, ?_⟩
      rw [kq_none]
      intro c
      simp [tst, h2]
  · simp only [if_neg h1]
    refine ⟨⟨hi, hi, trivial⟩, ?_⟩
    rw [kq_none]
    intro c
    simp [tst, h1]
/-- the class's loop -/
theorem g62_loop {A : Nat} : ∀ (d i n : Nat) (p : PM), i + d = 40 → d < n → g6_guard_62 n p A (cn i) ∧ (∀ k j s, ¬ (k = 10 ∧ s = 2) → (v6_guard_62 n p A (cn i)).1 k j s = p.1 k j s) ∧ (v6_guard_62 n p A (cn i)).2 = p.2 ∧ ∀ j, j < 40 → (v6_guard_62 n p A (cn i)).1 10 (j + 1) 2 = if i ≤ j ∧ p.1 10 (j + 1) 1 = cn 3 ∧ p.2.2 10 (j + 1) 3 = A then cn 0 else p.1 10 (j + 1) 2 := by
  intro d
  induction d with
  | zero =>
    intro i n p h1 h2
    obtain ⟨m, rfl⟩ : ∃ m, n = m + 1 := ⟨n - 1, by omega⟩
    simp only [eg6_guard_62, ev6_guard_62, bg6_guard_62, bv6_guard_62, if_neg (lpf (i := i) (N := 40) (by omega) (by omega) (by omega))]
    refine ⟨trivial, fun _ _ _ _ => trivial, trivial, fun j hj => ?_⟩
    rw [if_neg (by omega)]
  | succ d ih =>
    intro i n p h1 h2
    obtain ⟨m, rfl⟩ : ∃ m, n = m + 1 := ⟨n - 1, by omega⟩
    have hi := cninb (i := i) (n := 40) (by omega) (by omega)
    have hz : ¬ i + 1 = 0 := by omega
    obtain ⟨g, k1, k2, k3⟩ := ih (i + 1) m p (by omega) (by omega)
    obtain ⟨g', l1, l2, l3⟩ := ih (i + 1) m (pI p 10 (i + 1) 2 (cn 0)) (by omega) (by omega)
    simp only [eg6_guard_62, ev6_guard_62, bg6_guard_62, bv6_guard_62, if_pos (lpt (i := i) (N := 40) (by omega) (by omega)), cntk (i := i) (by omega), cnsucc]
    by_cases h3 : p.1 10 (i + 1) 1 = cn 3
    · by_cases h4 : p.2.2 10 (i + 1) 3 = A
      · simp only [if_pos h3, if_pos h4]
        refine ⟨?_, fun k j s h => ?_, l2, fun j hj => ?_⟩
        · repeat' first
            | with_reducible exact hi
            | with_reducible exact hz
            | with_reducible exact g'
            | exact trivial
            | exact not_false
            | apply And.intro
            | (split <;> rename_i h9 <;> first | simp only [if_neg h9, if_true, if_false] | simp only [if_pos h9, if_true, if_false] | skip)
        · rw [l1 k j s h, pI_1]
          by_cases e : k = 10
          · exact u3_s fun e2 => h ⟨e, e2⟩
          · exact u3_k e
        · rw [l3 j hj, pI_1, u3_s (show ¬ (1 : Nat) = 2 by decide)]
          by_cases e : j = i
          · rw [if_neg (by omega), e, u3_same, if_pos ⟨Nat.le_refl _, h3, h4⟩]
          · rw [u3_i (by omega)]
            show (if i + 1 ≤ j ∧ p.1 10 (j + 1) 1 = cn 3 ∧ p.2.2 10 (j + 1) 3 = A then cn 0 else p.1 10 (j + 1) 2) = _
            by_cases e2 : i + 1 ≤ j
            · by_cases e3 : p.1 10 (j + 1) 1 = cn 3 ∧ p.2.2 10 (j + 1) 3 = A
              · rw [if_pos ⟨e2, e3⟩, if_pos ⟨by omega, e3⟩]
              · rw [if_neg fun q => e3 q.2, if_neg fun q => e3 q.2]
            · rw [if_neg fun q => e2 q.1, if_neg fun q => e2 (by omega)]
      · simp only [if_pos h3, if_neg h4]
        refine ⟨?_, k1, k2, fun j hj => ?_⟩
        · repeat' first
            | with_reducible exact hi
            | with_reducible exact hz
            | with_reducible exact g
            | exact trivial
            | exact not_false
            | apply And.intro
            | (split <;> rename_i h9 <;> first | simp only [if_neg h9, if_true, if_false] | simp only [if_pos h9, if_true, if_false] | skip)
        · rw [k3 j hj]
          by_cases e : j = i
          · rw [e, if_neg (by omega), if_neg fun q => h4 q.2.2]
          · by_cases e2 : i + 1 ≤ j
            · by_cases e3 : p.1 10 (j + 1) 1 = cn 3 ∧ p.2.2 10 (j + 1) 3 = A
              · rw [if_pos ⟨e2, e3⟩, if_pos ⟨by omega, e3⟩]
              · rw [if_neg fun q => e3 q.2, if_neg fun q => e3 q.2]
            · rw [if_neg fun q => e2 q.1, if_neg fun q => e2 (by omega)]
    · simp only [if_neg h3]
      refine ⟨?_, k1, k2, fun j hj => ?_⟩
      · repeat' first
          | with_reducible exact hi
          | with_reducible exact hz
          | with_reducible exact g
          | exact trivial
          | exact not_false
          | apply And.intro
          | (split <;> rename_i h9 <;> first | simp only [if_neg h9, if_true, if_false] | simp only [if_pos h9, if_true, if_false] | skip)
      · rw [k3 j hj]
        by_cases e : j = i
        · rw [e, if_neg (by omega), if_neg fun q => h3 q.2.1]
        · by_cases e2 : i + 1 ≤ j
          · by_cases e3 : p.1 10 (j + 1) 1 = cn 3 ∧ p.2.2 10 (j + 1) 3 = A
            · rw [if_pos ⟨e2, e3⟩, if_pos ⟨by omega, e3⟩]
            · rw [if_neg fun q => e3 q.2, if_neg fun q => e3 q.2]
          · rw [if_neg fun q => e2 q.1, if_neg fun q => e2 (by omega)]
