/-! a protection is looked at, on both sides -/
theorem ww_af {p p' q q' : PM} {lg : Nat → Int32} {x y N T D l : Nat} {w : Nat → Prop} {f f' : Nat → Int} (H : WW p q lg x y w N T D l f) (h1 : ∀ K, ¬ K = 0 → p'.1 K = p.1 K) (h2 : p'.2 = p.2) (k1 : ∀ K, ¬ K = 15 → q'.1 K = q.1 K) (k2 : ∀ K, ¬ K = 1 → q'.1 15 K = q.1 15 K) (k3 : q'.2 = q.2) (hK : CK p') (hA : AF p' q' f') : WW p' q' lg x y w N T D l f' := by
  obtain ⟨hO, -, hB, hD, -, hI0, hI, hF⟩ := H
  have e13 : q'.1 13 = q.1 13 := k1 13 (by decide)
  have e12 : q'.1 12 = q.1 12 := k1 12 (by decide)
  refine ⟨?_, hA, ?_, ?_, hK, ?_, ?_, ?_⟩
  · exact ord_c (h1 10 (by decide)) (by rw [h2]) (by rw [h1 6 (by decide)]) (by rw [h1 6 (by decide)]) (fun K _ _ => by rw [e13]) (fun K k4 k5 => k2 K (by omega)) (by rw [e12]) (by rw [e12]) hO
  · exact brl_c (h1 1 (by decide)) (fun i _ _ => by rw [e13]) (k2 2 (by decide)) hB
  · exact dr_c (h1 4 (by decide)) (h1 7 (by decide)) (by rw [h2]) (fun i _ _ => by rw [e13]) (k2 7 (by decide)) (k2 8 (by decide)) (by rw [e12]) hD
  · exact ot_c (h1 9 (by decide)) (fun i _ => by rw [h1 13 (by decide)]) (h1 2 (by decide)) (by rw [h1 6 (by decide)]) (by rw [h1 6 (by decide)]) (fun i _ _ => by rw [e13]) (k2 9 (by decide)) (k2 10 (by decide)) (fun i _ => by rw [e12]) hI0 (pd_c (by rw [e13]) (by rw [e12]) (by rw [k3]) hI0)
  · exact iq_c (fun K _ _ => by rw [e13]) (fun K k4 k5 => k2 K (by omega)) (by rw [e13]) (by rw [e13]) (by rw [e12]) hI
  · exact fb_c (k2 3 (by decide)) (by rw [e13]) (by rw [e13]) (by rw [e12]) hF
theorem fu_0 {f : Nat → Int} {a : Nat} : fu f a 0 = f := by
  funext c
  unfold fu
  split <;> omega
theorem ww_guard {p q : PM} {lg : Nat → Int32} {x y o a N T D l : Nat} {w : Nat → Prop} {f : Nat → Int} {n : Int} {K : Nat → Bool} (H : WW p (kq q K) lg x y w N T D l f) (ha : a < 8) (hk : (p.1 10 (o + 1) 1 = cn 3) = (q.1 13 19 o = cn 4)) (hown : p.2.2 10 (o + 1) 3 = a + 1) (hn : 1 ≤ n) (hf : q.1 13 19 o = cn 4 → n ≤ f a) : g6_guard p (o + 1) (cn n) ∧ ∃ K' : Nat → Bool, (∀ c, K' c = true → K c = true ∨ (c = a ∧ tst q o a = true)) ∧ (∀ c, K c = true → K' c = true) ∧ (q.1 13 19 o = cn 4 → f a = n → tst q o a = true → K' a = true) ∧ WW (v6_guard p (o + 1) (cn n)) (kq q K') lg x y w N T D l (fu f a (if q.1 13 19 o = cn 4 then -n else 0)) := by
  have hz : ¬ o + 1 = 0 := by omega
  have hza : ¬ a + 1 = 0 := by omega
  by_cases h1 : q.1 13 19 o = cn 4
  · obtain ⟨fa0, tl, ⟨zp, z1, z2, z3, z4⟩, ⟨z, y1, y2, y3, y4⟩, tk, tc⟩ := H.2.1.2 a ha
    have hfa := hf h1
    have q4 : q.1 13 4 a = cn (z + f a) := y4
    have q3 : q.1 13 3 a = cn zp := z4
    have hr : rg (z + n) := ⟨by omega, by omega⟩
    rw [if_pos h1]
    have hW1 : WW (pI p 0 (a + 1) 6 (cn (z + n))) (kq q K) lg x y w N T D l (fu f a (-n)) := by
      refine ww_af H (fun k h => ?_) rfl (fun _ _ => rfl) (fun _ _ => rfl) rfl ?_ ?_
      · funext i s
        exact u3_k h
      · have hK := H.2.2.2.2.1
        unfold CK at hK ⊢
        refine ⟨fun c hc => ?_, fun b hb => hK.2 b hb⟩
        rw [pI_1, u3_s (by decide), u3_s (by decide)]
        exact hK.1 c hc
      · refine ⟨fun c hc => H.2.1.1 c hc, fun c hc => ?_⟩
        obtain ⟨g0, g1, g2, ⟨v, v1, v2, v3, v4⟩, g4, g5⟩ := H.2.1.2 c hc
        refine ⟨?_, g1, ?_, ?_, ?_, ?_⟩
        · unfold fu
          split
          · rename_i e
            rw [e]
            omega
          · exact g0
        · rw [pI_1, u3_s (by decide)]
          exact g2
        · unfold fu
          by_cases e : c = a
          · rw [e, if_pos rfl]
            exact ⟨z + n, by omega, by omega, by rw [pI_1, u3_same], by rw [y4]; exact congrArg cn (by omega)⟩
          · rw [if_neg e]
            exact ⟨v, v1, v2, by rw [pI_1, u3_i (by omega)]; exact v3, v4⟩
        · rw [pI_1, u3_s (by decide)]
          exact g4
        · rw [pI_1, u3_s (by decide)]
          exact g5
    obtain ⟨l1, l2, l3, l4⟩ := g62_loop (A := a + 1) 40 0 FU (pI (pI p 0 (a + 1) 6 (cn (z + n))) 0 (a + 1) 7 (cn 1)) rfl (by decide)
    have hz0 : ((0 : Nat) : Int) = 0 := rfl
    rw [hz0] at l1 l2 l3 l4
    have e5 : (pI p 0 (a + 1) 6 (cn (z + n))).1 0 (a + 1) 5 = cn zp := by
      rw [pI_1, u3_s (by decide)]
      exact z3
    have e6 : (pI p 0 (a + 1) 6 (cn (z + n))).1 0 (a + 1) 6 = cn (z + n) := by rw [pI_1, u3_same]
    unfold g6_guard bg6_guard v6_guard bv6_guard
    simp only [hk, if_pos h1, hown, y3, cnadd, e5, e6, zcn, cneq (show rg zp from ⟨by omega, by omega⟩) (show rg 0 from ⟨by decide, by decide⟩), cnlt hr (show rg zp from ⟨by omega, by omega⟩)]
    have htst : tst q o a = (decide (0 < zp) && !decide (z + f a < zp)) := by
      unfold tst
      rw [q3, q4, decide_eq_true h1, Bool.true_and]
      simp only [zcn, cnlt (show rg 0 from ⟨by decide, by decide⟩) (show rg zp from ⟨by omega, by omega⟩), cnlt (show rg (z + f a) from ⟨by omega, by omega⟩) (show rg zp from ⟨by omega, by omega⟩)]
    by_cases h2 : zp = 0
    · simp only [if_pos h2]
      refine ⟨?_, K, fun c h => Or.inl h, fun c h => h, fun _ _ h => ?_, hW1⟩
      · repeat' first
          | with_reducible exact hz
          | with_reducible exact hza
          | exact trivial
          | exact not_false
          | apply And.intro
          | (split <;> rename_i h9 <;> first | simp only [if_neg h9, if_true, if_false] | simp only [if_pos h9, if_true, if_false] | skip)
      · rw [htst, h2] at h
        simp at h
    · by_cases h3 : z + n < zp
      · simp only [if_neg h2, if_pos h3]
        refine ⟨?_, K, fun c h => Or.inl h, fun c h => h, fun _ h5 h => ?_, hW1⟩
        · repeat' first
            | with_reducible exact hz
            | with_reducible exact hza
            | exact trivial
            | exact not_false
            | apply And.intro
            | (split <;> rename_i h9 <;> first | simp only [if_neg h9, if_true, if_false] | simp only [if_pos h9, if_true, if_false] | skip)
        · rw [htst, h5] at h
          simp [h3] at h
      · simp only [if_neg h2, if_neg h3]
        refine ⟨?_, fun c => K c || decide (c = a), fun c h => ?_, fun c h => (by show (K c || decide (c = a)) = true; rw [h]; rfl), fun _ _ _ => by simp, ?_⟩
        · repeat' first
            | with_reducible exact hz
            | with_reducible exact hza
            | with_reducible exact l1
            | exact trivial
            | exact not_false
            | apply And.intro
            | (split <;> rename_i h9 <;> first | simp only [if_neg h9, if_true, if_false] | simp only [if_pos h9, if_true, if_false] | skip)
        · have h : (K c || decide (c = a)) = true := h
          cases hc : K c
          · rw [hc] at h
            have e : c = a := by simpa using h
            refine Or.inr ⟨e, ?_⟩
            rw [htst]
            simp
            omega
          · exact Or.inl rfl
        · have hW2 : WW (pI (pI p 0 (a + 1) 6 (cn (z + n))) 0 (a + 1) 7 (cn 1)) (pI (kq q K) 15 1 a (cn 1)) lg x y w N T D l (fu f a (-n)) := by
            refine ww_af hW1 (fun k h => ?_) rfl (fun k h => ?_) (fun k h => ?_) rfl ?_ ?_
            · funext i s
              exact u3_k h
            · funext i s
              exact u3_k h
            · funext s
              exact u3_i h
            · have hK := hW1.2.2.2.2.1
              unfold CK at hK ⊢
              refine ⟨fun c hc => ?_, fun b hb => hK.2 b hb⟩
              rw [pI_1, u3_s (by decide), u3_s (by decide)]
              exact hK.1 c hc
            · refine ⟨fun c hc => hW1.2.1.1 c hc, fun c hc => ?_⟩
              obtain ⟨g0, g1, g2, ⟨v, v1, v2, v3, v4⟩, g4, g5⟩ := hW1.2.1.2 c hc
              refine ⟨g0, g1, ?_, ⟨v, v1, v2, ?_, v4⟩, ?_, ?_⟩
              · rw [pI_1, u3_s (by decide)]
                exact g2
              · rw [pI_1, u3_s (by decide)]
                exact v3
              · by_cases e : c = a
                · rw [e]
                  exact ⟨by rw [pI_1, u3_same, pI_1, u3_same], by rw [pI_1, u3_same]; exact Or.inr rfl⟩
                · have e8 : (pI (kq q K) 15 1 a (cn 1)).1 15 1 c = (kq q K).1 15 1 c := by rw [pI_1, u3_s e]
                  rw [pI_1, u3_i (by omega), e8]
                  exact g4
              · rw [pI_1, u3_s (by decide)]
                exact g5
          refine w_mk ?_ hW2
          refine ⟨fun i S h => l2 10 i S fun h2 => h h2.2, fun k h => ?_, l3, fun k i h => ?_, rfl, fun i hi => ?_, fun i h4 h5 => ?_⟩
          · funext i s
            exact l2 k i s fun h2 => h h2.1
          · by_cases e1 : k = 15
            · subst e1
              by_cases e2 : i = 1
              · subst e2
                funext s
                rw [kq_1, pI_1]
                by_cases e3 : s = a
                · rw [e3, u3_same, if_pos ⟨ha, by simp⟩]
                · rw [u3_s e3, kq_1]
                  have e4 : decide (s = a) = false := decide_eq_false e3
                  simp only [e4, Bool.or_false]
              · funext s
                rw [pI_1, u3_i e2, kq_15 (fun e3 => h ⟨rfl, e3⟩) e2, kq_15 (fun e3 => h ⟨rfl, e3⟩) e2]
            · funext s
              rw [pI_1, u3_k e1, kq_k e1, kq_k e1]
          · have hS := hW2.1.1.1 i hi
            have eq2 : (pI (kq q K) 15 1 a (cn 1)).1 15 3 i = (kq q K).1 15 3 i := by rw [pI_1, u3_i (by decide)]
            rw [eq2, l4 i hi, kq_3, kq_3]
            by_cases h6 : i < 44 ∧ q.1 13 19 i = cn 4 ∧ K (q.1 13 15 i).toNatClampNeg = true
            · have h7 : i < 44 ∧ q.1 13 19 i = cn 4 ∧ (K (q.1 13 15 i).toNatClampNeg || decide ((q.1 13 15 i).toNatClampNeg = a)) = true := ⟨h6.1, h6.2.1, by rw [h6.2.2]; rfl⟩
              rw [if_pos h6, if_pos h7]
              have h8 : (pI (kq q K) 15 1 a (cn 1)).1 15 3 i = 0 := by rw [eq2, kq_3, if_pos h6]; rfl
              have h9 := slot_dead hS h8
              refine Or.inr ⟨?_, rfl⟩
              split
              · rfl
              · exact h9
            · rw [if_neg h6]
              by_cases hlv : q.1 15 3 i = 0
              · have h8 : (pI (kq q K) 15 1 a (cn 1)).1 15 3 i = 0 := by rw [eq2, kq_3, if_neg h6]; exact hlv
                have h9 := slot_dead hS h8
                refine Or.inr ⟨?_, ?_⟩
                · split
                  · rfl
                  · exact h9
                · split
                  · rfl
                  · exact hlv
              · obtain ⟨hl, a', b', r', s', z', hL⟩ := slot_live hS (by rw [eq2, kq_3, if_neg h6]; exact hlv)
                obtain ⟨c1, c2, c3⟩ := hL.1
                have c4 : q.1 13 15 i = cn a' := c2
                have ek := kind_quote hL.2.2.2.1
                have ek2 : ((pI (pI p 0 (a + 1) 6 (cn (z + n))) 0 (a + 1) 7 (cn 1)).1 10 (i + 1) 1 = cn 3) = (q.1 13 19 i = cn 4) := ek
                by_cases h7 : q.1 13 19 i = cn 4 ∧ a' = a
                · refine Or.inr ⟨?_, ?_⟩
                  · rw [if_pos ⟨by omega, by rw [ek2]; exact h7.1, by rw [c3, h7.2]⟩]
                  · rw [if_pos ⟨by omega, h7.1, by rw [c4, cntk (by omega), h7.2]; simp⟩]
                · refine Or.inl ⟨?_, ?_⟩
                  · rw [if_neg]
                    intro h8
                    rw [ek2, c3] at h8
                    exact h7 ⟨h8.2.1, by omega⟩
                  · rw [if_neg]
                    intro h8
                    rw [c4, cntk (by omega)] at h8
                    by_cases h9 : a' = a
                    · exact h7 ⟨h8.2.1, h9⟩
                    · refine h6 ⟨h8.1, h8.2.1, ?_⟩
                      rw [c4, cntk (by omega)]
                      have h10 := h8.2.2
                      rw [decide_eq_false h9, Bool.or_false] at h10
                      exact h10
          · have eq2 : (pI (kq q K) 15 1 a (cn 1)).1 15 3 i = (kq q K).1 15 3 i := by rw [pI_1, u3_i (by decide)]
            rw [eq2]
            have h6 := hW2.1.1.2 i h4 h5
            rw [eq2] at h6
            rw [h6]
            rw [kq_3] at h6
            rw [kq_3]
            split
            · rfl
            · rename_i h7
              by_cases h8 : i < 44 ∧ q.1 13 19 i = cn 4 ∧ K (q.1 13 15 i).toNatClampNeg = true
              · exact absurd ⟨h8.1, h8.2.1, by rw [h8.2.2]; rfl⟩ h7
              · rw [if_neg h8] at h6
                exact h6
  · rw [if_neg h1, fu_0]
    unfold g6_guard bg6_guard v6_guard bv6_guard
    simp only [hk, if_neg h1]
    exact ⟨⟨hz, trivial⟩, K, fun c h => Or.inl h, fun c h => h, fun h => absurd h h1, H⟩
