/-! an iceberg shows anew; an order comes to its book -/
theorem nextT_e (p : PM) {T : Nat} (h : p.1 6 1 5 = cn T) : v6_nextTurn p = (cn (T + 1 : Nat), pI p 6 1 5 (cn (T + 1 : Nat))) := by
  unfold v6_nextTurn bv6_nextTurn
  simp only [h, cnsucc, pI_1, u3_same]
theorem g_show (p : PM) (o : Nat) : g6_showAnew p (o + 1) := by
  have hz : ¬ o + 1 = 0 := by omega
  unfold g6_showAnew bg6_showAnew g10_showable bg10_showable g14_min_7cf53 bg14_min_7cf53 g6_nextTurn bg6_nextTurn
  repeat' first
    | with_reducible exact hz
    | exact trivial
    | exact not_false
    | apply And.intro
    | (split <;> rename_i h9 <;> first | simp only [if_neg h9, if_true, if_false] | simp only [if_pos h9, if_true, if_false] | skip)
theorem cause_c {p p' q q' : PM} {o : Nat} (h1 : p'.1 10 (o + 1) 15 = p.1 10 (o + 1) 15) (h2 : q'.1 13 28 o = q.1 13 28 o) (h3 : q'.1 13 19 o = q.1 13 19 o) (H : q.1 13 19 o = cn 3 → CauseR p q o) : q'.1 13 19 o = cn 3 → CauseR p' q' o := by
  unfold CauseR at H ⊢
  rw [h1, h2, h3]
  exact H
theorem ww_w {p q : PM} {lg : Nat → Int32} {x y N T D l : Nat} {w w' : Nat → Prop} {f : Nat → Int} (H : WW p q lg x y w N T D l f) (hw : ∀ i, i < 40 → ¬ w' i → ¬ w i ∨ (stnd q i → ¬ q.1 13 16 i = cn y → q.1 13 19 i = cn 1 → ∃ h : Int, 1 ≤ h ∧ h ≤ 50 ∧ q.1 13 22 i = cn h)) : WW p q lg x y w' N T D l f := by
  obtain ⟨hO, hA, hB, hD, hK, hI0, ⟨i1, i2, i3, i4⟩, hF⟩ := H
  refine ⟨hO, hA, hB, hD, hK, hI0, ⟨i1, fun i hi h => ?_, i3, i4⟩, hF⟩
  rcases hw i hi h with h2 | h2
  · exact i2 i hi h2
  · exact h2
theorem ww_show {p q : PM} {lg : Nat → Int32} {x y o N T D l : Nat} {w : Nat → Prop} {f : Nat → Int} (H : WW p q lg x y w N T D l f) (ho : o < 40) (hox : ¬ o = x) (hy : ∀ b : Nat, b < 6 → q.1 13 16 o = cn b → ¬ b = y) (hT : T + 1 ≤ 1000000000) : ∃ T', T ≤ T' ∧ T' ≤ T + 1 ∧ WW (v6_showAnew p (o + 1)) (sQ q o) lg x y (fun i => w i ∧ ¬ i = o) N T' D l f ∧ RS (sQ q o) 40 = RS q 40 := by
  have hS := H.1.1.1 o ho
  have hww : ∀ i, ¬ i = o → ¬ (w i ∧ ¬ i = o) → ¬ w i := fun i h h2 h3 => h2 ⟨h3, h⟩
  unfold v6_showAnew bv6_showAnew sQ
  by_cases h0 : q.1 15 3 o = 0
  · rw [slot_dead hS h0, if_neg (show ¬ cn 0 = cn 1 by decide), if_pos h0]
    refine ⟨T, Nat.le_refl _, by omega, ww_w H fun i hi h => ?_, rfl⟩
    by_cases e : i = o
    · rw [e]
      refine Or.inr fun h2 => ?_
      have h3 := h2.1
      rw [h0] at h3
      exact absurd h3 (by decide)
    · exact Or.inl (hww i e h)
  obtain ⟨hl, a, b, r, s, z, hL⟩ := slot_live hS h0
  rw [if_neg h0]
  obtain ⟨r1, r2, r3, r4⟩ := hL.2.2.2.2.2.2.2.1
  obtain ⟨s1, s2, s3, s4, s5⟩ := hL.2.2.2.2.2.2.2.2.1
  have hbk := hL.2.1
  rcases hL.2.2.2.2.2.2.2.2.2.2.2.2 with hs | ⟨m1, m2, m3, v, m4, m5, m6, m7⟩ | ⟨m1, m2, m3, m4, m5⟩
  · exact absurd hs.1 hox
  · obtain ⟨h, h1, h2, h3, h4, h5⟩ := m6 (hy b hbk.1 hbk.2.1)
    rw [m2, if_pos rfl, h4]
    have e1 : (0 < cn h) = (0 < h) := by rw [zcn, cnlt ⟨by omega, by omega⟩ ⟨by omega, by omega⟩]
    by_cases hh : 0 < h
    · simp only [e1, if_pos hh]
      have hq : (if q.1 13 19 o = cn 1 then (if q.1 13 22 o = 0 then v12_newTurn (v12_showsAnew q (cn o)) (cn o) else q) else q) = q := by
        rcases h5 with ⟨k1, k2⟩ | ⟨k1, k2⟩
        · rw [if_pos k1, k2, if_neg]
          rw [zcn, cneq ⟨by omega, by omega⟩ ⟨by omega, by omega⟩]
          omega
        · rw [if_neg k1]
      rw [hq]
      refine ⟨T, Nat.le_refl _, by omega, ww_w H fun i hi hi2 => ?_, rfl⟩
      by_cases e : i = o
      · rw [e]
        refine Or.inr fun g1 g2 g3 => ?_
        rcases h5 with ⟨k1, k2⟩ | ⟨k1, k2⟩
        · exact ⟨h, by omega, by omega, k2⟩
        · exact absurd g3 k1
      · exact Or.inl (hww i e hi2)
    · simp only [e1, if_neg hh]
      rcases h5 with ⟨k1, k2⟩ | ⟨k1, k2⟩
      · have k3 : h = 0 := by omega
        rw [if_pos k1, k2, k3, if_pos cn0e']
        have t1 := H.1.2.2.1.2.2.1
        have t2 := H.1.2.2.1.2.2.2.1
        rw [showable_e p r3 s3 ⟨by omega, by omega⟩ ⟨by omega, by omega⟩, shAn_e q (by omega) r4 s4 ⟨by omega, by omega⟩ ⟨by omega, by omega⟩]
        generalize hm : (if s < r then s else r) = mm
        have hm1 : 1 ≤ mm ∧ mm ≤ r ∧ mm ≤ s := by rw [← hm]; split <;> omega
        rw [nextT_e (T := T) _ (by rw [pI_1, u3_k (by decide)]; exact t1), newT_e (T := T) _ (by omega) (by rw [pI_1, u3_k (by decide)]; exact t2)]
        dsimp only
        obtain ⟨g1, g2⟩ := ww_st (p' := pI (pI (pI p 10 (o + 1) 11 (cn mm)) 6 1 5 (cn (T + 1 : Nat))) 10 (o + 1) 12 (cn (T + 1 : Nat))) (q' := pI (pI (pI q 13 22 o (cn mm)) 13 23 o (cn T)) 12 1 40 (cn (T + 1 : Nat))) (x' := x) (w' := fun i => w i ∧ ¬ i = o) (T' := T + 1) H ho hl hL
          (fun i S hi => by
            rw [pI_1, pI_1, pI_1]
            by_cases e : i = o + 1
            · rw [e, u3_s (fun e2 => hi ⟨e, by omega⟩), u3_k (by decide), u3_s (fun e2 => hi ⟨e, by omega⟩)]
            · rw [u3_i e, u3_k (by decide), u3_i e])
          (fun K k1 k2 => by
            funext i S
            rw [pI_1, u3_k k1, pI_1, u3_k k2, pI_1, u3_k k1])
          (fun S k1 => by rw [pI_1, u3_k (by decide), pI_1, u3_s k1, pI_1, u3_k (by decide)])
          rfl
          (fun K i hi => by
            rw [pI_1, u3_k (by decide), pI_1, pI_1]
            by_cases e : i = o
            · rw [u3_i (fun e2 => hi ⟨e, by omega⟩), u3_i (fun e2 => hi ⟨e, by omega⟩)]
            · rw [u3_s e, u3_s e])
          (by
            funext i S
            rw [pI_1, u3_k (by decide), pI_1, u3_k (by decide), pI_1, u3_k (by decide)])
          (fun S k1 => by rw [pI_1, u3_s k1, pI_1, u3_k (by decide), pI_1, u3_k (by decide)])
          rfl (fun i _ _ => rfl)
          (by
            refine Or.inr (Or.inl ⟨m1, ?_, ?_, v, ?_, ?_, fun _ => ⟨mm, by omega, by omega, by omega, ?_, Or.inl ⟨?_, ?_⟩⟩, ?_⟩)
            · rw [pI_1, u3_s (by decide), pI_1, u3_k (by decide), pI_1, u3_s (by decide)]
              exact m2
            · rw [pI_1, u3_k (by decide), pI_1, u3_i (by decide), pI_1, u3_i (by decide)]
              exact m3
            · rw [pI_1, u3_s (by decide), pI_1, u3_k (by decide), pI_1, u3_s (by decide)]
              exact m4
            · rw [pI_1, u3_k (by decide), pI_1, u3_k (by decide), pI_1, u3_k (by decide), u3_k (by decide), u3_i (by decide), u3_i (by decide), u3_k (by decide), u3_i (by decide), u3_i (by decide)]
              exact m5
            · rw [pI_1, u3_s (by decide), pI_1, u3_k (by decide), pI_1, u3_same]
            · rw [pI_1, u3_k (by decide), pI_1, u3_i (by decide), pI_1, u3_i (by decide)]
              exact k1
            · rw [pI_1, u3_k (by decide), pI_1, u3_i (by decide), pI_1, u3_same]
            · exact cause_c (by rw [pI_1, u3_s (by decide), pI_1, u3_k (by decide), pI_1, u3_s (by decide)]) (by rw [pI_1, u3_k (by decide), pI_1, u3_i (by decide), pI_1, u3_i (by decide)]) (by rw [pI_1, u3_k (by decide), pI_1, u3_i (by decide), pI_1, u3_i (by decide)]) m7)
          (Or.inr ⟨rfl, hT, by rw [pI_1, u3_k (by decide), pI_1, u3_same], by rw [pI_1, u3_same], by rw [pI_1, u3_same], by rw [pI_1, u3_k (by decide), pI_1, u3_same]⟩)
          (fun _ h7 => by
            obtain ⟨c, c1, c2, c3⟩ := H.2.2.2.2.2.2.1.1 o ho ⟨hl, m3⟩ h7
            rw [hbk.2.1, cneq ⟨by omega, by omega⟩ ⟨by omega, by omega⟩] at c2
            have e : b = c := by omega
            rw [e]
            exact c3)
          (fun _ _ _ _ => ⟨mm, by omega, by omega, by rw [pI_1, u3_k (by decide), pI_1, u3_i (by decide), pI_1, u3_same]⟩)
          hww
          (fun h7 h8 t h9 h10 => by
            rw [pI_1, u3_k (by decide), pI_1, u3_i (by decide), pI_1, u3_i (by decide)] at h9
            have := H.2.2.2.2.2.2.1.2.2.1 o t ho hl h7 (by rw [m3]; decide) h9 h10
            rw [hbk.2.1] at this
            exact this)
        exact ⟨T + 1, by omega, Nat.le_refl _, g1, g2⟩
      · omega
  · rw [m2, if_neg (show ¬ cn 2 = cn 1 by decide)]
    have k1 : ¬ q.1 13 19 o = cn 1 := by
      rcases m5 with h | h <;> rw [h] <;> decide
    rw [if_neg k1]
    refine ⟨T, Nat.le_refl _, by omega, ww_w H fun i hi hi2 => ?_, rfl⟩
    by_cases e : i = o
    · rw [e]
      exact Or.inr fun g1 g2 g3 => absurd g3 k1
    · exact Or.inl (hww i e hi2)
