/-! quotes are counted: the class, and that both are the same -/
noncomputable def nb (P : Prop) : Nat := @ite Nat P (Classical.propDecidable P) 1 0
theorem nb_pos {P : Prop} (h : P) : nb P = 1 := by
  unfold nb
  rw [if_pos h]
theorem nb_neg {P : Prop} (h : ¬ P) : nb P = 0 := by
  unfold nb
  rw [if_neg h]
def sF (F : Nat → Nat) : Nat → Nat → Nat
  | 0, _ => 0
  | d + 1, i => F i + sF F d (i + 1)
theorem sF_add (F G : Nat → Nat) : ∀ d i, sF (fun k => F k + G k) d i = sF F d i + sF G d i
  | 0, _ => rfl
  | d + 1, i => by
    show F i + G i + sF _ d (i + 1) = F i + sF F d (i + 1) + (G i + sF G d (i + 1))
    rw [sF_add F G d (i + 1)]
    omega
theorem sF_zero {F : Nat → Nat} : ∀ d i, (∀ k, i ≤ k → k < i + d → F k = 0) → sF F d i = 0
  | 0, _, _ => rfl
  | d + 1, i, h => by
    show F i + sF F d (i + 1) = 0
    rw [h i (Nat.le_refl _) (by omega), sF_zero d (i + 1) fun k k1 k2 => h k (by omega) (by omega)]
theorem sF_swap (F : Nat → Nat → Nat) (m b0 : Nat) : ∀ d i, sF (fun k => sF (F k) m b0) d i = sF (fun b => sF (fun k => F k b) d i) m b0
  | 0, i => (sF_zero m b0 fun _ _ _ => rfl).symm
  | d + 1, i => by
    show sF (F i) m b0 + sF (fun k => sF (F k) m b0) d (i + 1) = sF (fun b => F i b + sF (fun k => F k b) d (i + 1)) m b0
    rw [sF_swap F m b0 d (i + 1), sF_add]
theorem sF_mul (F : Nat → Nat) (c : Nat) : ∀ d i, sF (fun k => F k * c) d i = sF F d i * c
  | 0, _ => (Nat.zero_mul c).symm
  | d + 1, i => by
    show F i * c + sF _ d (i + 1) = (F i + sF F d (i + 1)) * c
    rw [sF_mul F c d (i + 1), Nat.add_mul]
theorem sF_single {F : Nat → Nat} {b0 : Nat} (h : ∀ k, ¬ k = b0 → F k = 0) : ∀ d i, sF F d i = if i ≤ b0 ∧ b0 < i + d then F b0 else 0
  | 0, i => by
    rw [if_neg (by omega)]
    rfl
  | d + 1, i => by
    show F i + sF F d (i + 1) = _
    rw [sF_single h d (i + 1)]
    by_cases e : i = b0
    · rw [← e, if_neg (by omega), if_pos (by omega)]
      omega
    · rw [h i e]
      by_cases e2 : i + 1 ≤ b0 ∧ b0 < i + 1 + d
      · rw [if_pos e2, if_pos (by omega)]
        omega
      · rw [if_neg e2, if_neg (by omega)]
theorem sF_uniq {P : Nat → Prop} (h : ∀ i j, i < 40 → j < 40 → P i → P j → i = j) : ∀ d i, i + d ≤ 40 → sF (fun k => nb (P k)) d i = nb (∃ k, i ≤ k ∧ k < i + d ∧ P k)
  | 0, i, _ => (nb_neg (fun ⟨k, k1, k2, _⟩ => by omega)).symm
  | d + 1, i, hd => by
    show nb (P i) + sF (fun k => nb (P k)) d (i + 1) = _
    rw [sF_uniq h d (i + 1) (by omega)]
    have a1 : P i → nb (P i) = 1 := fun e => nb_pos e
    by_cases e : P i
    · have a2 : nb (∃ k, i ≤ k ∧ k < i + (d + 1) ∧ P k) = 1 := nb_pos ⟨i, Nat.le_refl _, by omega, e⟩
      have a3 : nb (∃ k, i + 1 ≤ k ∧ k < i + 1 + d ∧ P k) = 0 := nb_neg (fun ⟨k, k1, k2, k3⟩ => by
        have := h i k (by omega) (by omega) e k3
        omega)
      rw [a1 e, a2, a3]
    · have a0 : nb (P i) = 0 := nb_neg e
      rw [a0]
      by_cases e2 : ∃ k, i + 1 ≤ k ∧ k < i + 1 + d ∧ P k
      · have a3 : nb (∃ k, i + 1 ≤ k ∧ k < i + 1 + d ∧ P k) = 1 := nb_pos e2
        have a2 : nb (∃ k, i ≤ k ∧ k < i + (d + 1) ∧ P k) = 1 := by
          obtain ⟨k, k1, k2, k3⟩ := e2
          exact nb_pos ⟨k, by omega, by omega, k3⟩
        rw [a2, a3]
      · have a3 : nb (∃ k, i + 1 ≤ k ∧ k < i + 1 + d ∧ P k) = 0 := nb_neg e2
        have a2 : nb (∃ k, i ≤ k ∧ k < i + (d + 1) ∧ P k) = 0 := nb_neg (fun ⟨k, k1, k2, k3⟩ => e2 ⟨k, by
          by_cases e3 : k = i
          · rw [e3] at k3
            exact absurd k3 e
          · omega, by omega, k3⟩)
        rw [a2, a3]
theorem QCf_sF (q : PM) (a : Nat) : ∀ d b, QCf q a d b = sF (qc q a) d b
  | 0, _ => rfl
  | d + 1, b => by
    show qc q a b + QCf q a d (b + 1) = qc q a b + sF (qc q a) d (b + 1)
    rw [QCf_sF q a d (b + 1)]
/-- the other side of a quote in an open book -/
noncomputable def qo (q : PM) (a b : Nat) : Nat := nb (¬ v12_isOpen q (cn b) = 0 ∧ ∃ j, j < 44 ∧ PQ q a b (cn 0) j)
noncomputable def ic (q : PM) (a i : Nat) : Nat := sF (fun b => nb (PQ q a b (cn 1) i) * qo q a b) 6 0
section Count
variable {p q : PM} {lg : Nat → Int32} {N T D l : Nat}
theorem pq_lt {x y : Nat} (H : OR p q x y) {a b j : Nat} {t : Int32} (hj : j < 44) (h : PQ q a b t j) : j < 40 := by
  by_cases e : j < 40
  · exact e
  · exact absurd (H.2 j (by omega) hj) h.1
theorem ic_sum (H : ORD p q 99 99 N T) {a : Nat} : sF (ic q a) 40 0 = QCf q a 6 0 := by
  rw [QCf_sF]
  have e : sF (ic q a) 40 0 = sF (fun b => sF (fun i => nb (PQ q a b (cn 1) i) * qo q a b) 40 0) 6 0 := sF_swap (fun i b => nb (PQ q a b (cn 1) i) * qo q a b) 6 0 40 0
  rw [e]
  refine congrArg (fun F => sF F 6 0) (funext fun b => ?_)
  rw [sF_mul (fun k => nb (PQ q a b (cn 1) k)) (qo q a b) 40 0, sF_uniq (P := fun k => PQ q a b (cn 1) k) (fun i j hi hj h1 h2 => H.2.2.2 i j hi hj (b_ne (or_b H.1 i (by omega)) h1.1) (b_ne (or_b H.1 j (by omega)) h2.1) h1.2.1 h2.2.1 (h1.2.2.1.trans h2.2.2.1.symm) (h1.2.2.2.1.trans h2.2.2.2.1.symm) (h1.2.2.2.2.trans h2.2.2.2.2.symm)) 40 0 (by omega)]
  have e1 := (hq_e q a b (cn 1)).2
  have e0 := (hq_e q a b (cn 0)).2
  unfold qc qo
  by_cases h1 : ∃ k, 0 ≤ k ∧ k < 0 + 40 ∧ PQ q a b (cn 1) k
  · have h1' : ¬ v12_hasQuote q (cn a) (cn b) (cn 1) = 0 := by
      rw [e1]
      obtain ⟨k, -, k2, k3⟩ := h1
      exact ⟨k, by omega, k3⟩
    rw [nb_pos h1]
    by_cases h2 : ¬ v12_isOpen q (cn b) = 0 ∧ ∃ j, j < 44 ∧ PQ q a b (cn 0) j
    · rw [nb_pos h2, if_pos ⟨h2.1, h1', by rw [e0]; exact h2.2⟩]
    · rw [nb_neg h2, if_neg (fun h => h2 ⟨h.1, by rw [← e0]; exact h.2.2⟩)]
  · have h1' : ¬ ¬ v12_hasQuote q (cn a) (cn b) (cn 1) = 0 := by
      rw [e1]
      exact fun ⟨k, k2, k3⟩ => h1 ⟨k, by omega, by have := pq_lt H.1 k2 k3; omega, k3⟩
    rw [nb_neg h1, if_neg (fun h => h1' h.2.1), Nat.zero_mul]
theorem os_loop (H : OR p q 99 99) {a b i : Nat} (ha : a < 8) (hb : b < 6) (hi : i < 40) (o3 : p.2.2 10 (i + 1) 3 = a + 1) (o4 : p.2.2 10 (i + 1) 4 = b + 1) (hs : ¬ p.1 10 (i + 1) 5 = 0) : ∀ (d j n : Nat), j + d = 40 → d < n → (∀ k, k < j → ¬ PQ q a b (cn 0) k) → g6_hasOtherSide_11 p n (i + 1) (cn j) ∧ ((v6_hasOtherSide_11 p n (i + 1) (cn j) = cn 1 ∧ ∃ k, k < 44 ∧ PQ q a b (cn 0) k) ∨ (v6_hasOtherSide_11 p n (i + 1) (cn j) = cn 0 ∧ ∀ k, k < 40 → ¬ PQ q a b (cn 0) k)) := by
  have hzi : ¬ i + 1 = 0 := by omega
  intro d
  induction d with
  | zero =>
    intro j n h1 h2 h3
    obtain ⟨m, rfl⟩ : ∃ m, n = m + 1 := ⟨n - 1, by omega⟩
    have e : j = 40 := by omega
    subst e
    have hn := lpf (i := 40) (N := 40) (by omega) (by omega) (by omega)
    rw [ev6_hasOtherSide_11, eg6_hasOtherSide_11]
    unfold bv6_hasOtherSide_11 bg6_hasOtherSide_11
    rw [if_neg hn, if_neg hn]
    exact ⟨trivial, Or.inr ⟨rfl, h3⟩⟩
  | succ d ih =>
    intro j n h1 h2 h3
    obtain ⟨m, rfl⟩ : ∃ m, n = m + 1 := ⟨n - 1, by omega⟩
    have hj40 := cninb (i := j) (n := 40) (by omega) (by omega)
    have l40 : cn (j : Int) < cn 40 := lpt (by omega) (by omega)
    have up : ∀ k, k < j + 1 → k < j ∨ k = j := fun k h => by omega
    have gs := g_stands p j (b + 1) (cn 0)
    have hnot := fun h : ¬ PQ q a b (cn 0) j => ih (j + 1) m (by omega) (by omega) (fun k hk => by
      rcases up k hk with e | e
      · exact h3 k e
      · rw [e]
        exact h)
    have hst := stands_eq (t := cn 0) hb (by omega : j < 40) (H.1 j (by omega))
    rw [ev6_hasOtherSide_11, eg6_hasOtherSide_11]
    unfold bv6_hasOtherSide_11 bg6_hasOtherSide_11
    simp only [if_pos l40, cntk (i := j) (by omega), o3, o4, if_neg hs, cnsucc]
    by_cases hk : p.1 10 (j + 1) 1 = cn 3
    · simp only [if_pos hk]
      by_cases ho : p.2.2 10 (j + 1) 3 = a + 1
      · simp only [if_pos ho]
        by_cases e0 : v10_standsIn p (j + 1) (b + 1) (cn 0) = 0
        · obtain ⟨k1, k2⟩ := hnot (fun h => by
            rw [hst, there_e q j (by omega), if_neg h.1] at e0
            rcases H.1 j (by omega) with ⟨-, s2⟩ | ⟨s1, aj, bj, r, s, z, hL⟩
            · exact h.1 s2
            · have h24 : q.1 13 24 j = cn 1 := by
                rcases hL.2.2.2.2.2.2.2.2.2.2.2.2 with w | w | w
                · omega
                · exact w.2.2.1
                · rcases w.2.2.2.2 with w2 | w2 <;> · rw [h.2.1] at w2; exact absurd w2 (by decide)
              rw [if_pos ⟨h24, h.2.2.2.1, h.2.2.2.2⟩] at e0
              exact cn01 e0)
          simp only [if_pos e0]
          exact ⟨⟨hj40, hzi, hzi, hzi, gs, k1⟩, k2⟩
        · simp only [if_neg e0]
          refine ⟨⟨hj40, hzi, hzi, hzi, gs, trivial⟩, Or.inl ⟨trivial, j, by omega, ?_⟩⟩
          rcases H.1 j (by omega) with ⟨s1, s2⟩ | ⟨s1, aj, bj, r, s, z, hL⟩
          · rw [stands_e, s1, if_neg (fun h => absurd h.1 (by decide))] at e0
            exact absurd rfl e0
          · have hsd := e0
            rw [hst] at hsd
            have hb16 := there_book (by omega) hsd
            rw [there_e q j (by omega)] at hsd
            have h3' : ¬ q.1 15 3 j = 0 := by
              rw [s1]
              exact cn01
            rw [if_neg h3'] at hsd
            have h15 : q.1 13 15 j = cn a := by
              have := hL.1.2.2
              rw [ho] at this
              rw [hL.1.2.1]
              congr 2
              omega
            have h19 : q.1 13 19 j = cn 4 := by
              rcases hL.2.2.2.1 with ⟨u1, u2⟩ | ⟨u1, u2⟩ | ⟨u1, u2⟩ | ⟨u1, u2⟩ | ⟨u1, u2⟩
              · rw [hk] at u1
                exact absurd u1 (by decide)
              · rw [hk] at u1
                exact absurd u1 (by decide)
              · rw [hk] at u1
                exact absurd u1 (by decide)
              · rw [hk] at u1
                exact absurd u1 (by decide)
              · exact u2
            by_cases hh : q.1 13 24 j = cn 1 ∧ q.1 13 16 j = cn b ∧ q.1 15 4 j = cn 0
            · exact ⟨h3', h19, h15, hb16, hh.2.2⟩
            · rw [if_neg hh] at hsd
              exact absurd rfl hsd
      · obtain ⟨k1, k2⟩ := hnot (fun h => by
          rcases H.1 j (by omega) with ⟨-, s2⟩ | ⟨s1, aj, bj, r, s, z, hL⟩
          · exact h.1 s2
          · have h1 := hL.1.2.1
            have h2 := hL.1.1
            rw [h.2.2.1, cneq ⟨by omega, by omega⟩ ⟨by omega, by omega⟩] at h1
            have h3 := hL.1.2.2
            exact ho (by rw [h3]; omega))
        simp only [if_neg ho]
        exact ⟨⟨hj40, hzi, k1⟩, k2⟩
    · obtain ⟨k1, k2⟩ := hnot (fun h => by
        rcases H.1 j (by omega) with ⟨-, s2⟩ | ⟨s1, aj, bj, r, s, z, hL⟩
        · exact h.1 s2
        · rcases hL.2.2.2.1 with ⟨u1, u2⟩ | ⟨u1, u2⟩ | ⟨u1, u2⟩ | ⟨u1, u2⟩ | ⟨u1, u2⟩
          · rw [h.2.1] at u2
            exact absurd u2 (by decide)
          · rw [h.2.1] at u2
            exact absurd u2 (by decide)
          · rw [h.2.1] at u2
            exact absurd u2 (by decide)
          · rw [h.2.1] at u2
            exact absurd u2 (by decide)
          · exact hk u1)
      simp only [if_neg hk]
      exact ⟨⟨hj40, k1⟩, k2⟩
end Count
