/-! a tick: time goes on, quotes are counted -/
theorem sF_one {F : Nat → Nat} {b0 : Nat} : ∀ d i, (∀ k, i ≤ k → k < i + d → ¬ k = b0 → F k = 0) → i ≤ b0 → b0 < i + d → sF F d i = F b0
  | 0, i, _, h1, h2 => by omega
  | d + 1, i, h, h1, h2 => by
    show F i + sF F d (i + 1) = F b0
    by_cases e : i = b0
    · rw [e, sF_zero d (b0 + 1) fun k k1 k2 => h k (by omega) (by omega) (by omega)]
      omega
    · rw [h i (Nat.le_refl _) (by omega) e, sF_one d (i + 1) (fun k k1 k2 => h k (by omega) (by omega)) (by omega) (by omega)]
      omega
section Tick
variable {p q : PM} {lg : Nat → Int32} {N T D l : Nat}
theorem ic_none {i : Nat} (h : ∀ a b, ¬ PQ q a b (cn 1) i) (a : Nat) : ic q a i = 0 := sF_zero 6 0 fun k _ _ => by
  show nb (PQ q a k (cn 1) i) * qo q a k = 0
  rw [nb_neg (h a k), Nat.zero_mul]
theorem ic_some {i a b : Nat} (ha : a < 8) (hb : b < 6) (h : PQ q a b (cn 1) i) (a' : Nat) (ha' : a' < 8) : ic q a' i = if a' = a then qo q a b else 0 := by
  by_cases e : a' = a
  · rw [if_pos e, e]
    have k := sF_one (F := fun k => nb (PQ q a k (cn 1) i) * qo q a k) (b0 := b) 6 0 (fun k _ hk6 hk => by
      show nb (PQ q a k (cn 1) i) * qo q a k = 0
      rw [nb_neg (fun h2 => by
        have := h.2.2.2.1
        rw [h2.2.2.2.1, cneq ⟨by omega, by omega⟩ ⟨by omega, by omega⟩] at this
        omega), Nat.zero_mul]) (by omega) (by omega)
    have k2 : nb (PQ q a b (cn 1) i) * qo q a b = qo q a b := by rw [nb_pos h, Nat.one_mul]
    exact k.trans k2
  · rw [if_neg e]
    refine sF_zero 6 0 fun k _ _ => ?_
    show nb (PQ q a' k (cn 1) i) * qo q a' k = 0
    rw [nb_neg (fun h2 => by
      have := h.2.2.1
      rw [h2.2.2.1, cneq ⟨by omega, by omega⟩ ⟨by omega, by omega⟩] at this
      omega), Nat.zero_mul]
theorem cq_loop : ∀ (d i n : Nat) (p : PM), i + d = 40 → d < n → OR p q 99 99 → BR p q → g6_countQuotes_10 n p (cn i) ∧ (∀ k j s, ¬ (k = 0 ∧ s = 8) → (v6_countQuotes_10 n p (cn i)).1 k j s = p.1 k j s) ∧ (v6_countQuotes_10 n p (cn i)).2 = p.2 ∧ ∀ a, a < 8 → (v6_countQuotes_10 n p (cn i)).1 0 (a + 1) 8 = p.1 0 (a + 1) 8 + cn (sF (ic q a) d i : Nat) := by
  intro d
  induction d with
  | zero =>
    intro i n p h1 h2 H hB
    obtain ⟨m, rfl⟩ : ∃ m, n = m + 1 := ⟨n - 1, by omega⟩
    have e : i = 40 := by omega
    subst e
    have hn := lpf (i := 40) (N := 40) (by omega) (by omega) (by omega)
    rw [ev6_countQuotes_10, eg6_countQuotes_10]
    unfold bv6_countQuotes_10 bg6_countQuotes_10
    rw [if_neg hn, if_neg hn]
    refine ⟨trivial, fun _ _ _ _ => rfl, rfl, fun a _ => ?_⟩
    show p.1 0 (a + 1) 8 = p.1 0 (a + 1) 8 + cn 0
    rw [addz]
  | succ d ih =>
    intro i n p h1 h2 H hB
    obtain ⟨m, rfl⟩ : ∃ m, n = m + 1 := ⟨n - 1, by omega⟩
    have hi40 := cninb (i := i) (n := 40) (by omega) (by omega)
    have l40 : cn (i : Int) < cn 40 := lpt (by omega) (by omega)
    have hzi : ¬ i + 1 = 0 := by omega
    have hsF : ∀ a, sF (ic q a) (d + 1) i = ic q a i + sF (ic q a) d (i + 1) := fun _ => rfl
    -- nothing is counted
    have skip : v6_countQuotes_10 (m + 1) p (cn i) = v6_countQuotes_10 m p (cn (i + 1 : Nat)) → (g6_countQuotes_10 m p (cn (i + 1 : Nat)) → g6_countQuotes_10 (m + 1) p (cn i)) → (∀ a, a < 8 → ic q a i = 0) → g6_countQuotes_10 (m + 1) p (cn i) ∧ (∀ k j s, ¬ (k = 0 ∧ s = 8) → (v6_countQuotes_10 (m + 1) p (cn i)).1 k j s = p.1 k j s) ∧ (v6_countQuotes_10 (m + 1) p (cn i)).2 = p.2 ∧ ∀ a, a < 8 → (v6_countQuotes_10 (m + 1) p (cn i)).1 0 (a + 1) 8 = p.1 0 (a + 1) 8 + cn (sF (ic q a) (d + 1) i : Nat) := by
      intro e1 e2 e3
      obtain ⟨k1, k2, k3, k4⟩ := ih (i + 1) m p (by omega) (by omega) H hB
      rw [e1]
      refine ⟨e2 k1, k2, k3, fun a ha => ?_⟩
      rw [k4 a ha, hsF a, e3 a ha, Nat.zero_add]
    rcases H.1 i (by omega) with ⟨s1, s2⟩ | ⟨s1, a, b, r, s, z, hL⟩
    · have n1 : ¬ p.1 10 (i + 1) 2 = cn 1 := by
        rw [s1]
        decide
      refine skip ?_ ?_ (fun a _ => ic_none (fun a b h => h.1 s2) a)
      · rw [ev6_countQuotes_10]
        unfold bv6_countQuotes_10
        simp only [if_pos l40, cntk (i := i) (by omega), if_neg n1, cnsucc, ite_self]
      · intro h
        rw [eg6_countQuotes_10]
        unfold bg6_countQuotes_10
        simp only [if_pos l40, cntk (i := i) (by omega), if_neg n1, cnsucc, ite_self]
        exact ⟨hi40, h⟩
    · have ha := hL.1.1
      have hb := hL.2.1.1
      have o3 := hL.1.2.2
      have o4 := hL.2.1.2.2
      have h15 := hL.1.2.1
      have h16 := hL.2.1.2.1
      obtain ⟨h5, h5b⟩ := hL.2.2.2.2.1
      have hza : ¬ a + 1 = 0 := by omega
      have hzb : ¬ b + 1 = 0 := by omega
      by_cases hk : q.1 13 19 i = cn 4
      · have hkp : p.1 10 (i + 1) 1 = cn 3 := by
          rcases hL.2.2.2.1 with ⟨u1, u2⟩ | ⟨u1, u2⟩ | ⟨u1, u2⟩ | ⟨u1, u2⟩ | ⟨u1, u2⟩
          · rw [hk] at u2
            exact absurd u2 (by decide)
          · rw [hk] at u2
            exact absurd u2 (by decide)
          · rw [hk] at u2
            exact absurd u2 (by decide)
          · rw [hk] at u2
            exact absurd u2 (by decide)
          · exact u1
        have hst : p.1 10 (i + 1) 2 = cn 1 := by
          rcases hL.2.2.2.2.2.2.2.2.2.2.2.2 with w | w | w
          · omega
          · exact w.2.1
          · rcases w.2.2.2.2 with w2 | w2
            · rw [hk] at w2
              exact absurd w2 (by decide)
            · rw [hk] at w2
              exact absurd w2 (by decide)
        by_cases hs : q.1 15 4 i = 0
        · have hs' : p.1 10 (i + 1) 5 = 0 := by
            rw [h5]
            exact hs
          refine skip ?_ ?_ (fun a _ => ic_none (fun a b h => by
            have := h.2.2.2.2
            rw [hs] at this
            exact absurd this.symm cn01) a)
          · rw [ev6_countQuotes_10]
            unfold bv6_countQuotes_10
            simp only [if_pos l40, cntk (i := i) (by omega), if_pos hkp, if_pos hst, if_pos hs', cnsucc]
          · intro h
            rw [eg6_countQuotes_10]
            unfold bg6_countQuotes_10
            simp only [if_pos l40, cntk (i := i) (by omega), if_pos hkp, if_pos hst, if_pos hs', cnsucc]
            exact ⟨hi40, h⟩
        · have hs1 := b_ne h5b hs
          have hs' : ¬ p.1 10 (i + 1) 5 = 0 := by
            rw [h5]
            exact hs
          have hpq : PQ q a b (cn 1) i := ⟨by rw [s1]; exact cn01, hk, h15, h16, hs1⟩
          have hic := ic_some ha hb hpq
          have hop := open_eq hb hB
          by_cases ho : v12_isOpen q (cn b) = 0
          · have np : ¬ p.1 1 (b + 1) 5 = 0 := by
              rw [hop]
              exact fun h => h ho
            refine skip ?_ ?_ (fun a' ha' => by
              rw [hic a' ha']
              have : qo q a b = 0 := nb_neg fun h => h.1 ho
              rw [this]
              split <;> rfl)
            · rw [ev6_countQuotes_10]
              unfold bv6_countQuotes_10
              simp only [if_pos l40, cntk (i := i) (by omega), if_pos hkp, if_pos hst, if_neg hs', o4, if_neg np, cnsucc]
            · intro h
              rw [eg6_countQuotes_10]
              unfold bg6_countQuotes_10
              simp only [if_pos l40, cntk (i := i) (by omega), if_pos hkp, if_pos hst, if_neg hs', o4, if_neg np, cnsucc]
              exact ⟨hi40, hzb, h⟩
          · have np : p.1 1 (b + 1) 5 = 0 := by
              rw [hop]
              exact ho
            obtain ⟨F, hF, hF2⟩ : ∃ F, FU = F ∧ 100 < F := ⟨FU, rfl, by decide⟩
            obtain ⟨g1, g2⟩ := os_loop H ha hb (by omega : i < 40) o3 o4 hs' 40 0 F rfl (by omega) (fun k hk => by omega)
            have z0 : cn ((0 : Nat) : Int) = cn 0 := rfl
            rw [z0] at g1 g2
            have eo : v6_hasOtherSide p (i + 1) = v6_hasOtherSide_11 p F (i + 1) (cn 0) ∧ g6_hasOtherSide p (i + 1) := by
              unfold v6_hasOtherSide bv6_hasOtherSide g6_hasOtherSide bg6_hasOtherSide
              rw [hF]
              exact ⟨rfl, g1⟩
            rcases g2 with ⟨e, h⟩ | ⟨e, h⟩
            · -- counted
              rw [e] at eo
              have hqo : qo q a b = 1 := nb_pos ⟨ho, h⟩
              have eC : v6_countQuotes_10 (m + 1) p (cn i) = v6_countQuotes_10 m (pI p 0 (a + 1) 8 (p.1 0 (a + 1) 8 + cn 1)) (cn (i + 1 : Nat)) ∧ (g6_countQuotes_10 m (pI p 0 (a + 1) 8 (p.1 0 (a + 1) 8 + cn 1)) (cn (i + 1 : Nat)) → g6_countQuotes_10 (m + 1) p (cn i)) := by
                rw [ev6_countQuotes_10, eg6_countQuotes_10]
                unfold bv6_countQuotes_10 bg6_countQuotes_10
                simp only [if_pos l40, cntk (i := i) (by omega), if_pos hkp, if_pos hst, if_neg hs', o3, o4, if_pos np, eo.1, if_neg cn01, cnsucc]
                exact ⟨trivial, fun h => ⟨hi40, hzb, eo.2, hza, hza, h⟩⟩
              have ek : ∀ K, ¬ K = 0 → (pI p 0 (a + 1) 8 (p.1 0 (a + 1) 8 + cn 1)).1 K = p.1 K := by
                intro K hK
                funext j S
                rw [pI_1, u3_k hK]
              have H2 : OR (pI p 0 (a + 1) 8 (p.1 0 (a + 1) 8 + cn 1)) q 99 99 := ⟨fun j hj => slot_congr (fun S => by rw [ek 10 (by decide)]) (fun _ => rfl) (fun _ _ _ _ => rfl) (fun _ _ _ => rfl) rfl (H.1 j hj), H.2⟩
              have hB2 : BR (pI p 0 (a + 1) 8 (p.1 0 (a + 1) 8 + cn 1)) q := brl_c (ek 1 (by decide)) (fun _ _ _ => rfl) rfl hB
              obtain ⟨k1, k2, k3, k4⟩ := ih (i + 1) m _ (by omega) (by omega) H2 hB2
              rw [eC.1]
              refine ⟨eC.2 k1, fun k j s hk => ?_, k3, fun a' ha' => ?_⟩
              · rw [k2 k j s hk, pI_1, u3_ne (fun w => hk ⟨w.1, w.2.2⟩)]
              · rw [k4 a' ha', hsF a', hic a' ha']
                by_cases ea : a' = a
                · rw [if_pos ea, ea, pI_at, hqo, Int32.add_assoc, cnadd]
                  congr 2
                · rw [if_neg ea, Nat.zero_add, pI_1, u3_i (by omega)]
            · rw [e] at eo
              refine skip ?_ ?_ (fun a' ha' => by
                rw [hic a' ha']
                have : qo q a b = 0 := nb_neg fun ⟨_, k, k1, k2⟩ => h k (pq_lt H k1 k2) k2
                rw [this]
                split <;> rfl)
              · rw [ev6_countQuotes_10]
                unfold bv6_countQuotes_10
                simp only [if_pos l40, cntk (i := i) (by omega), if_pos hkp, if_pos hst, if_neg hs', o4, if_pos np, eo.1, if_pos cn0e', cnsucc]
              · intro h
                rw [eg6_countQuotes_10]
                unfold bg6_countQuotes_10
                simp only [if_pos l40, cntk (i := i) (by omega), if_pos hkp, if_pos hst, if_neg hs', o4, if_pos np, eo.1, if_pos cn0e', cnsucc]
                exact ⟨hi40, hzb, eo.2, h⟩
      · have hkp : ¬ p.1 10 (i + 1) 1 = cn 3 := by
          intro w
          rcases hL.2.2.2.1 with ⟨u1, u2⟩ | ⟨u1, u2⟩ | ⟨u1, u2⟩ | ⟨u1, u2⟩ | ⟨u1, u2⟩
          · rw [w] at u1
            exact absurd u1 (by decide)
          · rw [w] at u1
            exact absurd u1 (by decide)
          · rw [w] at u1
            exact absurd u1 (by decide)
          · rw [w] at u1
            exact absurd u1 (by decide)
          · exact hk u2
        refine skip ?_ ?_ (fun a _ => ic_none (fun a b h => hk h.2.1) a)
        · rw [ev6_countQuotes_10]
          unfold bv6_countQuotes_10
          simp only [if_pos l40, cntk (i := i) (by omega), if_neg hkp, cnsucc]
        · intro h
          rw [eg6_countQuotes_10]
          unfold bg6_countQuotes_10
          simp only [if_pos l40, cntk (i := i) (by omega), if_neg hkp, cnsucc]
          exact ⟨hi40, h⟩
end Tick
