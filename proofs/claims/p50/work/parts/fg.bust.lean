/-! a trade is busted -/
section Bust
variable {p q : PM} {lg : Nat → Int32} {N T D l j a b : Nat} {r s z : Int}
theorem tkC_pI {K i S A : Nat} {u v x : Int32} (hK : ¬ K = 13) : tkC (pI p K i S u) A b v x = pI (tkC p A b v x) K i S u := by
  have e : ∀ i' s', (pI p K i S u).1 13 i' s' = p.1 13 i' s' := fun i' s' => by rw [pI_1, u3_k (by omega)]
  have c : ∀ (p : PM) (i' s' : Nat) (w : Int32), pI (pI p K i S u) 13 i' s' w = pI (pI p 13 i' s' w) K i S u := fun p i' s' w => pI_comm (fun h => hK h.1)
  have d : ∀ (p : PM) (i' : Nat) (w : Int64), pJ (pI p K i S u) 0 i' 4 w = pI (pJ p 0 i' 4 w) K i S u := fun p i' w => rfl
  unfold tkC
  by_cases h : b < 4
  · rw [if_pos h, if_pos h, e, c, d, pI_J]
  · rw [if_neg h, if_neg h, e, e, c, c, d, pI_J]
/-- a stop waits again -/
theorem ww_waits (H : WW p q lg 99 99 (fun _ => False) N T D l (fun _ => 0)) (hj : j < 40) (hl : q.1 15 3 j = cn 1) (hL : LV p q 99 99 j a b r s z) (hk : q.1 13 19 j = cn 3) : WW (v10_hold p (j + 1)) (pI (pI q 13 24 j (cn 2)) 13 28 j (cn (-1))) lg 99 99 (fun _ => False) N T D l (fun _ => 0) ∧ RS (pI (pI q 13 24 j (cn 2)) 13 28 j (cn (-1))) 40 = RS q 40 := by
  rw [(hold_e p j).1]
  have q24 : (pI (pI q 13 24 j (cn 2)) 13 28 j (cn (-1))).1 13 24 j = cn 2 := by rw [pI_1, u3_i (by decide), pI_at]
  have hno : ¬ stnd (pI (pI q 13 24 j (cn 2)) 13 28 j (cn (-1))) j := fun h => by
    have := h.2
    rw [q24] at this
    exact absurd this (by decide)
  refine ww_st (x' := 99) (w' := fun _ => False) (T' := T) H hj hl hL ?_ ?_ ?_ rfl ?_ ?_ ?_ rfl (fun _ _ _ => rfl) ?_ ?_ (fun h => absurd h hno) (fun h => absurd h hno) (fun _ _ h => h) (fun _ h => absurd q24 h)
  · intro i S h
    rw [pI_1, pI_1]
    by_cases e : i = j + 1
    · rw [u3_s (fun e2 => h ⟨e, by omega⟩), u3_s (fun e2 => h ⟨e, by omega⟩)]
    · rw [u3_i e, u3_i e]
  · intro K h1 h2
    funext i S
    rw [pI_1, u3_k h1, pI_1, u3_k h1]
  · intro S h
    rw [pI_1, u3_k (by decide), pI_1, u3_k (by decide)]
  · intro K i h
    rw [pI_1, pI_1]
    by_cases e : i = j
    · rw [u3_i (fun e2 => h ⟨e, by omega⟩), u3_i (fun e2 => h ⟨e, by omega⟩)]
    · rw [u3_s e, u3_s e]
  · funext i S
    rw [pI_1, u3_k (by decide), pI_1, u3_k (by decide)]
  · intro S h
    rw [pI_1, u3_k (by decide), pI_1, u3_k (by decide)]
  · refine Or.inr (Or.inr ⟨by omega, ?_, q24, pI_at, Or.inr ?_⟩)
    · rw [pI_1, u3_s (by decide), pI_at]
    · rw [pI_1, u3_i (by decide), pI_1, u3_i (by decide)]
      exact hk
  · refine Or.inl ⟨rfl, ?_, ?_, fun h => absurd h hno⟩
    · rw [pI_1, u3_k (by decide), pI_1, u3_k (by decide)]
      exact H.1.2.2.1.2.2.1
    · rw [pI_1, u3_k (by decide), pI_1, u3_k (by decide)]
      exact H.1.2.2.1.2.2.2.1
theorem hs_tail {v1 v3 : Int32} (hd : ∀ i, 40 ≤ i → i < 44 → q.1 15 3 i = cn 0) (hv : inb v3 6) : ∀ (d i n : Nat), i + d = 44 → 40 ≤ i → d < n → v12_doBust_166 n q v1 v3 (cn i) = (q.1 13 10 (v3).toNatClampNeg, q) ∧ g12_doBust_166 n q v1 v3 (cn i) := by
  intro d
  induction d with
  | zero =>
    intro i n h1 h2 h3
    obtain ⟨n1, rfl⟩ : ∃ z9, n = z9 + 1 := ⟨n - 1, by omega⟩
    have hn := lpf (i := i) (N := 44) (by omega) (by omega) (by omega)
    rw [ev12_doBust_166, eg12_doBust_166]
    unfold bv12_doBust_166 bg12_doBust_166
    rw [if_neg hn, if_neg hn]
    exact ⟨rfl, hv, trivial⟩
  | succ d ih =>
    intro i n h1 h2 h3
    obtain ⟨n1, rfl⟩ : ∃ z9, n = z9 + 1 := ⟨n - 1, by omega⟩
    have hi := cninb (i := i) (n := 44) (by omega) (by omega)
    have h0 : q.1 15 3 i = 0 := hd i h2 (by omega)
    obtain ⟨k1, k2⟩ := ih (i + 1) n1 (by omega) (by omega) (by omega)
    rw [ev12_doBust_166, eg12_doBust_166]
    unfold bv12_doBust_166 bg12_doBust_166
    simp only [if_pos (lpt (i := i) (N := 44) (by omega) (by omega)), cntk (i := i) (by omega), if_pos h0, cnsucc]
    exact ⟨k1, hi, k2⟩
/-- stops wait again, in both; the rest stays -/
theorem hs_loop {t bb : Nat} (ht : t ≤ 1000000000) (htD : D ≤ t + 60) (hbb : bb < 6) : ∀ (d i n n' : Nat) (p q : PM), i + d = 40 → d < n → d + 4 < n' → WW p q lg 99 99 (fun _ => False) N T D l (fun _ => 0) → q.1 13 30 (t % 60) = cn bb → (g6_holdStops_12 n p (bb + 1) (cn t) (cn i) ∧ g12_doBust_166 n' q (cn t) (cn bb) (cn i)) ∧ ∃ P Q : PM, v6_holdStops_12 n p (bb + 1) (cn t) (cn i) = P ∧ v12_doBust_166 n' q (cn t) (cn bb) (cn i) = (q.1 13 10 bb, Q) ∧ WW P Q lg 99 99 (fun _ => False) N T D l (fun _ => 0) ∧ RS Q 40 = RS q 40 ∧ Q.1 12 1 0 = q.1 12 1 0 := by
  intro d
  induction d with
  | zero =>
    intro i n n' p q h1 h2 h3 H hb
    obtain ⟨n1, rfl⟩ : ∃ z9, n = z9 + 1 := ⟨n - 1, by omega⟩
    have e : i = 40 := by omega
    subst e
    have hn := lpf (i := 40) (N := 40) (by omega) (by omega) (by omega)
    have i6 := cninb (i := bb) (n := 6) hbb (by omega)
    obtain ⟨k1, k2⟩ := hs_tail (q := q) (v1 := cn t) H.1.1.2 i6 4 40 n' rfl (by omega) (by omega)
    rw [cntk (i := bb) (by omega)] at k1
    rw [ev6_holdStops_12, eg6_holdStops_12, k1]
    unfold bv6_holdStops_12 bg6_holdStops_12
    rw [if_neg hn, if_neg hn]
    exact ⟨⟨trivial, k2⟩, p, q, rfl, rfl, H, rfl, rfl⟩
  | succ d ih =>
    intro i n n' p q h1 h2 h3 H hb
    obtain ⟨n1, rfl⟩ : ∃ z9, n = z9 + 1 := ⟨n - 1, by omega⟩
    obtain ⟨n2, rfl⟩ : ∃ z9, n' = z9 + 1 := ⟨n' - 1, by omega⟩
    have hi40 := cninb (i := i) (n := 40) (by omega) (by omega)
    have hi := cninb (i := i) (n := 44) (by omega) (by omega)
    have l40 : cn (i : Int) < cn 40 := lpt (by omega) (by omega)
    have l44 : cn (i : Int) < cn 44 := lpt (by omega) (by omega)
    obtain ⟨⟨i1, i2⟩, P, Q, i3, i4, i5⟩ := ih (i + 1) n1 n2 p q (by omega) (by omega) (by omega) H hb
    rw [ev6_holdStops_12, eg6_holdStops_12, ev12_doBust_166, eg12_doBust_166]
    unfold bv6_holdStops_12 bg6_holdStops_12 bv12_doBust_166 bg12_doBust_166
    simp only [if_pos l40, if_pos l44, cntk (i := i) (by omega), cnsucc]
    rcases H.1.1.1 i (by omega) with ⟨s1, s2⟩ | ⟨s1, ai, bi, r, s, z, hL⟩
    · have s1' : ¬ p.1 10 (i + 1) 2 = cn 1 := by
        rw [s1]
        decide
      have s2' : q.1 15 3 i = 0 := s2
      simp only [if_neg s1', if_pos s2', ite_self]
      exact ⟨⟨⟨hi40, i1⟩, hi, i2⟩, P, Q, i3, i4, i5⟩
    · have hl' : ¬ q.1 15 3 i = 0 := by
        rw [s1]
        exact cn01
      have hkind := kind_stop hL.2.2.2.1
      simp only [if_neg hl']
      by_cases hk : q.1 13 19 i = cn 3
      · have hk' : p.1 10 (i + 1) 1 = cn 2 := by rw [hkind]; exact hk
        simp only [if_pos hk, if_pos hk']
        have hst : (p.1 10 (i + 1) 2 = cn 1) = (q.1 13 24 i = cn 1) := by
          rcases hL.2.2.2.2.2.2.2.2.2.2.2.2 with h | h | h
          · omega
          · rw [h.2.1, h.2.2.1]
          · rw [h.2.1, h.2.2.1]
        by_cases h24 : q.1 13 24 i = cn 1
        · have h2' : p.1 10 (i + 1) 2 = cn 1 := by rw [hst]; exact h24
          have hcau : CauseR p q i := by
            rcases hL.2.2.2.2.2.2.2.2.2.2.2.2 with h | h | h
            · omega
            · obtain ⟨-, -, -, w, hB⟩ := h
              exact hB.2.2.2 hk
            · rw [h.2.2.1] at h24
              exact absurd h24 (by decide)
          have hct : (p.1 10 (i + 1) 15 = cn t) = (q.1 13 28 i = cn t) := by
            rcases hcau with ⟨c1, c2⟩ | ⟨u, u1, c1, c2⟩
            · rw [c1, c2, cneq (by decide) ⟨by omega, by omega⟩, cneq (by decide) ⟨by omega, by omega⟩]
              exact propext ⟨fun h => by omega, fun h => by omega⟩
            · rw [c1, c2]
          have h16 := hL.2.2.2.2.2.2.2.2.2.2.2.1
          simp only [if_pos h24, if_pos h2']
          by_cases h28 : q.1 13 28 i = cn t
          · have h15 : p.1 10 (i + 1) 15 = cn t := by rw [hct]; exact h28
            have hbk : bi = bb := by
              have h := (H.2.2.2.2.2.2.1.2.2.1 i t (by omega) s1 hk (by rw [h24]; decide) h28 ht).2 htD
              rw [hb, hL.2.1.2.1, cneq ⟨by omega, by omega⟩ ⟨by have := hL.2.1.1; omega, by have := hL.2.1.1; omega⟩] at h
              omega
            have h4 : p.2.2 10 (i + 1) 4 = bb + 1 := by rw [hL.2.1.2.2, hbk]
            simp only [if_pos h28, if_pos h4, if_pos h15, h16.1]
            by_cases h6 : q.1 15 6 i = 0
            · obtain ⟨W1, R1⟩ := ww_waits H (by omega) s1 hL hk
              have g30 : (pI (pI q 13 24 i (cn 2)) 13 28 i (cn (-1))).1 13 30 (t % 60) = cn bb := by
                rw [pI_1, u3_i (by decide), pI_1, u3_i (by decide)]
                exact hb
              obtain ⟨⟨m1, m2⟩, P, Q, m3, m4, m5, m6, m7⟩ := ih (i + 1) n1 n2 _ _ (by omega) (by omega) (by omega) W1 g30
              have g10 : (pI (pI q 13 24 i (cn 2)) 13 28 i (cn (-1))).1 13 10 bb = q.1 13 10 bb := by rw [pI_1, u3_i (by decide), pI_1, u3_i (by decide)]
              have g12 : (pI (pI q 13 24 i (cn 2)) 13 28 i (cn (-1))).1 12 1 0 = q.1 12 1 0 := by rw [pI_1, u3_k (by decide), pI_1, u3_k (by decide)]
              rw [g10] at m4
              rw [g12] at m7
              simp only [if_pos h6]
              exact ⟨⟨⟨hi40, (hold_e p i).2, m1⟩, hi, hi, hi, hi, hi, hi, hi, m2⟩, P, Q, m3, m4, m5, by omega, m7⟩
            · simp only [if_neg h6]
              exact ⟨⟨⟨hi40, i1⟩, hi, hi, hi, hi, hi, i2⟩, P, Q, i3, i4, i5⟩
          · have h15 : ¬ p.1 10 (i + 1) 15 = cn t := by rw [hct]; exact h28
            simp only [if_neg h28, if_neg h15, ite_self]
            exact ⟨⟨⟨hi40, i1⟩, hi, hi, hi, hi, i2⟩, P, Q, i3, i4, i5⟩
        · have h2' : ¬ p.1 10 (i + 1) 2 = cn 1 := by rw [hst]; exact h24
          simp only [if_neg h24, if_neg h2']
          exact ⟨⟨⟨hi40, i1⟩, hi, hi, hi, i2⟩, P, Q, i3, i4, i5⟩
      · have hk' : ¬ p.1 10 (i + 1) 1 = cn 2 := by rw [hkind]; exact hk
        simp only [if_neg hk, if_neg hk']
        exact ⟨⟨⟨hi40, i1⟩, hi, hi, i2⟩, P, Q, i3, i4, i5⟩
/-- the flag of a busted trade -/
theorem ww_flag {k : Nat} (H : WW p q lg 99 99 (fun _ => False) N T D l (fun _ => 0)) (hk : k < 60) (c6 : p.1 4 (k + 1) 6 = cn 1) : WW (pI p 4 (k + 1) 5 (cn 1)) (pI q 15 7 k (cn 1)) lg 99 99 (fun _ => False) N T D l (fun _ => 0) ∧ RS (pI q 15 7 k (cn 1)) 40 = RS q 40 := by
  have ek : ∀ K, ¬ K = 4 → (pI p 4 (k + 1) 5 (cn 1)).1 K = p.1 K := fun K h => by
    funext i S
    rw [pI_1, u3_k h]
  have eqk : ∀ K, ¬ K = 15 → (pI q 15 7 k (cn 1)).1 K = q.1 K := fun K h => by
    funext i S
    rw [pI_1, u3_k h]
  have e15 : ∀ K, ¬ K = 7 → (pI q 15 7 k (cn 1)).1 15 K = q.1 15 K := fun K h => by
    funext i
    rw [pI_1, u3_i h]
  have e4 : ∀ i S, ¬ S = 5 → (pI p 4 (k + 1) 5 (cn 1)).1 4 i S = p.1 4 i S := fun i S h => by rw [pI_1, u3_s h]
  refine ww_lat H (fun _ _ _ => rfl) (fun K _ h _ => ek K h) (fun i _ => by rw [ek 13 (by decide)]) rfl (fun K _ _ _ _ => by rw [eqk 13 (by decide)]) (by rw [eqk 13 (by decide)]) (fun K h _ => e15 K h) (fun S _ => by rw [eqk 12 (by decide)]) (fun a ha => ?_) ?_ ?_ (ck_c (ek 0 (by decide)) (ek 1 (by decide)) H.2.2.2.2.1) (pd_c (by rw [eqk 13 (by decide)]) (by rw [eqk 12 (by decide)]) rfl H.2.2.2.2.2.1)
  · have h := H.2.1.1 a ha
    unfold AcR at h ⊢
    rw [ek 13 (by decide), eqk 13 (by decide)]
    exact h
  · exact brl_c (ek 1 (by decide)) (fun i _ _ => by rw [eqk 13 (by decide)]) (e15 2 (by decide)) H.2.2.1
  · obtain ⟨z1, z2, z3, z4⟩ := H.2.2.2.1
    refine ⟨fun i hi => ?_, by rw [ek 7 (by decide)]; exact z2, by rw [eqk 12 (by decide)]; exact z3, z4⟩
    obtain ⟨y1, y2, y3⟩ := z1 i hi
    rw [e4 _ 6 (by decide), e15 8 (by decide)]
    refine ⟨y1, y2, ?_⟩
    rcases y3 with ⟨s1, s2, s3, b, A, B, z, n, hb, hA, hB, d0, d30, d1, d31, d2, d32, hz, d3, d33, n1, n2, d4, d34, d5, d7⟩ | y3
    · refine Or.inl ⟨s1, s2, s3, b, A, B, z, n, hb, hA, hB, d0, by rw [eqk 13 (by decide)]; exact d30, d1, by rw [eqk 13 (by decide)]; exact d31, d2, by rw [eqk 13 (by decide)]; exact d32, hz, by rw [e4 _ 3 (by decide)]; exact d3, by rw [eqk 13 (by decide)]; exact d33, n1, n2, by rw [e4 _ 4 (by decide)]; exact d4, by rw [eqk 13 (by decide)]; exact d34, ?_, ?_⟩
      · by_cases e : i = k
        · rw [e, pI_at, pI_at]
        · rw [pI_1, u3_i (by omega), pI_1, u3_s e]
          exact d5
      · by_cases e : i = k
        · rw [e, pI_at]
          exact b1
        · rw [pI_1, u3_s e]
          exact d7
    · exact Or.inr y3
end Bust
