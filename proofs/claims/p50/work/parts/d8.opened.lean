/-! a book has opened -/
section Opened
variable {p q p' q' : PM} {lg : Nat → Int32} {b N T D : Nat}
theorem ww_open (H : WW p q lg 99 b (fun _ => False) N T D b (fun _ => 0)) (hb : b < 6)
    (c1 : ∀ k j s, ¬ (k = 10 ∧ (s = 2 ∨ s = 11)) → ¬ (k = 1 ∧ j = b + 1 ∧ s = 5) → p'.1 k j s = p.1 k j s) (c2 : p'.2 = p.2) (c5 : p'.1 1 (b + 1) 5 = cn 0)
    (c3 : ∀ j, j < 40 → OpP p b j → p'.1 10 (j + 1) 2 = (if p.1 10 (j + 1) 6 = cn (-100000) then cn 0 else cn 1) ∧ p'.1 10 (j + 1) 11 = v10_showable p (j + 1))
    (c4 : ∀ j, j < 40 → ¬ OpP p b j → p'.1 10 (j + 1) 2 = p.1 10 (j + 1) 2 ∧ p'.1 10 (j + 1) 11 = p.1 10 (j + 1) 11)
    (d1 : ∀ k j s, ¬ (k = 15 ∧ j = 3) → ¬ (k = 13 ∧ j = 22) → ¬ (k = 13 ∧ j = 12 ∧ s = b) → q'.1 k j s = q.1 k j s) (d2 : q'.2 = q.2) (d5 : q'.1 13 12 b = cn (-100000))
    (d3 : ∀ j, j < 44 → OqP q b j → q'.1 15 3 j = (if q.1 15 5 j = 0 then cn 1 else cn 0) ∧ q'.1 13 22 j = if q.1 13 19 j = cn 1 then shv q j else q.1 13 22 j)
    (d4 : ∀ j, j < 44 → ¬ OqP q b j → q'.1 15 3 j = q.1 15 3 j ∧ q'.1 13 22 j = q.1 13 22 j) : WW p' q' lg 99 99 (fun _ => False) N T D (b + 1) (fun _ => 0) ∧ RS q' 40 ≤ RS q 40 ∧ SS q q' := by
  obtain ⟨⟨hO, hNR, hTR, hQU⟩, hA, hB, hD, hK, hI0, hI, hF⟩ := H
  have pk : ∀ K, ¬ K = 10 → ¬ K = 1 → p'.1 K = p.1 K := by
    intro K h h'
    funext j s
    exact c1 K j s (fun e => h e.1) (fun e => h' e.1)
  have p1 : ∀ j S, ¬ S = 5 → p'.1 1 j S = p.1 1 j S := fun j S h => c1 1 j S (fun e => absurd e.1 (by decide)) (fun e => h e.2.2)
  have p1j : ∀ j S, ¬ j = b + 1 → p'.1 1 j S = p.1 1 j S := fun j S h => c1 1 j S (fun e => absurd e.1 (by decide)) (fun e => h e.2.1)
  have p10 : ∀ j S, ¬ S = 2 → ¬ S = 11 → p'.1 10 j S = p.1 10 j S := fun j S h h' => c1 10 j S (fun e => by omega) (fun e => absurd e.1 (by decide))
  have q13 : ∀ K, ¬ K = 22 → ¬ K = 12 → q'.1 13 K = q.1 13 K := by
    intro K h h'
    funext s
    exact d1 13 K s (fun e => absurd e.1 (by decide)) (fun e => h e.2) (fun e => h' e.2.1)
  have q12c : ∀ c, ¬ c = b → q'.1 13 12 c = q.1 13 12 c := fun c h => d1 13 12 c (fun e => absurd e.1 (by decide)) (fun e => absurd e.2 (by decide)) (fun e => h e.2.2)
  have q15 : ∀ K, ¬ K = 3 → q'.1 15 K = q.1 15 K := by
    intro K h
    funext s
    exact d1 15 K s (fun e => h e.2) (fun e => absurd e.1 (by decide)) (fun e => absurd e.1 (by decide))
  have q12 : q'.1 12 = q.1 12 := by
    funext j s
    exact d1 12 j s (fun e => absurd e.1 (by decide)) (fun e => absurd e.1 (by decide)) (fun e => absurd e.1 (by decide))
  -- each place
  have hcell : ∀ i, i < 40 → SlotR p' q' 99 99 i ∧ (q'.1 15 3 i = cn 1 → q.1 15 3 i = cn 1) ∧ (q'.1 15 3 i = cn 1 → q.1 15 5 i = cn 1 → stnd q i → ¬ q.1 13 16 i = cn b) ∧ (stnd q i → q.1 13 16 i = cn b → q.1 13 19 i = cn 1 → ∃ h : Int, 1 ≤ h ∧ h ≤ 50 ∧ q'.1 13 22 i = cn h) ∧ (¬ q.1 13 16 i = cn b → q'.1 13 22 i = q.1 13 22 i) := by
    intro i hi
    rcases hO.1 i hi with ⟨s1, s2⟩ | ⟨s1, a, bi, r, s, z, hL⟩
    · have n1 : ¬ OpP p b i := fun h => by
        have := h.1
        rw [s1] at this
        exact absurd this (by decide)
      have n2 : ¬ OqP q b i := fun h => h.1 s2
      obtain ⟨w1, -⟩ := c4 i hi n1
      obtain ⟨w3, w4⟩ := d4 i (by omega) n2
      refine ⟨Or.inl ⟨by rw [w1]; exact s1, by rw [w3]; exact s2⟩, fun h => by rw [w3] at h; exact h, fun h => ?_, fun h => ?_, fun _ => w4⟩
      · rw [w3, s2] at h
        exact absurd h (by decide)
      · have := h.1
        rw [s2] at this
        exact absurd this (by decide)
    · have h15 : ¬ q.1 15 3 i = 0 := by
        rw [s1]
        exact cn01
      have hbi := hL.2.1.1
      have hb16 := hL.2.1.2.1
      have hb4 := hL.2.1.2.2
      have hr := hL.2.2.2.2.2.2.2.1
      have hsw := hL.2.2.2.2.2.2.2.2.1
      -- what a live order keeps
      have keep : q'.1 15 3 i = cn 1 → StatR p' q' 99 99 i bi r s z → SlotR p' q' 99 99 i := by
        intro hl hst
        refine Or.inr ⟨hl, a, bi, r, s, z, ?_⟩
        unfold LV at hL ⊢
        obtain ⟨g1, g2, g3, g4, g5, g6, g7, g8, g9, g10, g11, g12, -⟩ := hL
        rw [p10 _ 0 (by decide) (by decide), p10 _ 1 (by decide) (by decide), p10 _ 5 (by decide) (by decide), p10 _ 6 (by decide) (by decide), p10 _ 8 (by decide) (by decide), p10 _ 9 (by decide) (by decide), p10 _ 10 (by decide) (by decide), p10 _ 13 (by decide) (by decide), p10 _ 14 (by decide) (by decide), p10 _ 16 (by decide) (by decide), c2, q13 14 (by decide) (by decide), q13 15 (by decide) (by decide), q13 16 (by decide) (by decide), q13 17 (by decide) (by decide), q13 18 (by decide) (by decide), q13 19 (by decide) (by decide), q13 20 (by decide) (by decide), q13 21 (by decide) (by decide), q13 26 (by decide) (by decide), q13 27 (by decide) (by decide), q15 4 (by decide), q15 5 (by decide), q15 6 (by decide)]
        exact ⟨g1, g2, g3, g4, g5, g6, g7, g8, g9, g10, g11, g12, hst⟩
      have cau : (q.1 13 19 i = cn 3 → CauseR p q i) → q'.1 13 19 i = cn 3 → CauseR p' q' i := cause_c (p10 _ 15 (by decide) (by decide)) (by rw [q13 28 (by decide) (by decide)]) (by rw [q13 19 (by decide) (by decide)])
      rcases hL.2.2.2.2.2.2.2.2.2.2.2.2 with hs | hs | hs
      · omega
      · obtain ⟨-, t2, t3, w, t4, t5, t6, t7⟩ := hs
        by_cases eb : bi = b
        · have oc : OpP p b i := ⟨t2, by rw [hb4, eb]⟩
          have oq : OqP q b i := ⟨h15, by rw [hb16, eb], t3⟩
          obtain ⟨w1, w2⟩ := c3 i hi oc
          obtain ⟨w3, w4⟩ := d3 i (by omega) oq
          have hsh : v10_showable p (i + 1) = cn (if s < r then s else r) := showable_e p hr.2.2.1 hsw.2.2.1 ⟨by omega, by omega⟩ ⟨by omega, by omega⟩
          have hshv : shv q i = cn (if s < r then s else r) := by
            unfold shv
            rw [hsw.2.2.2.1, hr.2.2.2]
            simp only [cnlt (a := s) (b := r) ⟨by omega, by omega⟩ ⟨by omega, by omega⟩]
            split <;> rfl
          have hmm : 1 ≤ (if s < r then s else r) ∧ (if s < r then s else r) ≤ r ∧ (if s < r then s else r) ≤ s := by split <;> omega
          have hice : q.1 13 19 i = cn 1 → ∃ h : Int, 1 ≤ h ∧ h ≤ 50 ∧ q'.1 13 22 i = cn h := fun h => ⟨_, hmm.1, by omega, by rw [w4, if_pos h, hshv]⟩
          rcases hL.2.2.2.2.2.1.2 with ⟨l1, l2⟩ | ⟨l1, l2, l3⟩
          · -- at any price: gone
            have n5 : ¬ q.1 15 5 i = 0 := by
              rw [l1]
              exact cn01
            rw [hL.2.2.2.2.2.1.1, l2, if_pos rfl] at w1
            rw [if_neg n5] at w3
            refine ⟨Or.inl ⟨w1, w3⟩, fun h => ?_, fun h => ?_, fun _ _ => hice, fun h => ?_⟩
            · rw [w3] at h
              exact absurd h (by decide)
            · rw [w3] at h
              exact absurd h (by decide)
            · rw [hb16, eb] at h
              exact absurd rfl h
          · have n6 : ¬ cn z = cn (-100000) := pr_ne l2
            have l1' : q.1 15 5 i = 0 := l1
            rw [hL.2.2.2.2.2.1.1, if_neg n6] at w1
            rw [if_pos l1'] at w3
            refine ⟨keep w3 (Or.inr (Or.inl ⟨by omega, w1, by rw [q13 24 (by decide) (by decide)]; exact t3, w, by rw [p10 _ 7 (by decide) (by decide)]; exact t4, ?_, fun _ => ⟨_, by omega, hmm.2.1, hmm.2.2, by rw [w2, hsh], ?_⟩, cau t7⟩)), fun _ => s1, fun _ h => ?_, fun _ _ => hice, fun h => ?_⟩
            · rw [q15 5 (by decide), q13 25 (by decide) (by decide), q13 19 (by decide) (by decide)]
              exact t5
            · rw [q13 19 (by decide) (by decide)]
              by_cases hk : q.1 13 19 i = cn 1
              · exact Or.inl ⟨hk, by rw [w4, if_pos hk, hshv]⟩
              · refine Or.inr ⟨hk, ?_⟩
                have := hsw.2.2.2.2.resolve_left hk
                split <;> omega
            · rw [l1] at h
              exact absurd h (by decide)
            · rw [hb16, eb] at h
              exact absurd rfl h
        · have oc : ¬ OpP p b i := fun h => by
            have := h.2
            rw [hb4] at this
            omega
          have n16 : ¬ q.1 13 16 i = cn b := by
            rw [hb16, cneq ⟨by omega, by omega⟩ ⟨by omega, by omega⟩]
            omega
          have oq : ¬ OqP q b i := fun h => n16 h.2.1
          obtain ⟨w1, w2⟩ := c4 i hi oc
          obtain ⟨w3, w4⟩ := d4 i (by omega) oq
          obtain ⟨h, u1, u2, u3, u4, u5⟩ := t6 eb
          refine ⟨keep (by rw [w3]; exact s1) (Or.inr (Or.inl ⟨by omega, by rw [w1]; exact t2, by rw [q13 24 (by decide) (by decide)]; exact t3, w, by rw [p10 _ 7 (by decide) (by decide)]; exact t4, ?_, fun _ => ⟨h, u1, u2, u3, by rw [w2]; exact u4, ?_⟩, cau t7⟩)), fun _ => s1, fun _ _ _ => n16, fun _ h => absurd h n16, fun _ => w4⟩
          · rw [q15 5 (by decide), q13 25 (by decide) (by decide), q13 19 (by decide) (by decide)]
            exact t5
          · rw [q13 19 (by decide) (by decide), w4]
            exact u5
      · obtain ⟨-, t2, t3, t4, t5⟩ := hs
        have oc : ¬ OpP p b i := fun h => by
          have := h.1
          rw [t2] at this
          exact absurd this (by decide)
        have oq : ¬ OqP q b i := fun h => by
          have := h.2.2
          rw [t3] at this
          exact absurd this (by decide)
        obtain ⟨w1, w2⟩ := c4 i hi oc
        obtain ⟨w3, w4⟩ := d4 i (by omega) oq
        have nst : ¬ stnd q i := fun h => by
          have := h.2
          rw [t3] at this
          exact absurd this (by decide)
        refine ⟨keep (by rw [w3]; exact s1) (Or.inr (Or.inr ⟨by omega, by rw [w1]; exact t2, by rw [q13 24 (by decide) (by decide)]; exact t3, by rw [p10 _ 7 (by decide) (by decide)]; exact t4, by rw [q13 19 (by decide) (by decide)]; exact t5⟩)), fun _ => s1, fun _ _ h => absurd h nst, fun h => absurd h nst, fun _ => w4⟩
  have hlv : ∀ i, i < 40 → q'.1 15 3 i = cn 1 → q.1 15 3 i = cn 1 := fun i hi => (hcell i hi).2.1
  have hst : ∀ i, i < 40 → stnd q' i → stnd q i := fun i hi h => ⟨hlv i hi h.1, by rw [← q13 24 (by decide) (by decide)]; exact h.2⟩
  have hRS : RS q' 40 ≤ RS q 40 := RS_le 40 fun i hi => by
    have h0 := (rs_rng (hO.1 i hi)).1
    unfold rs at h0 ⊢
    rw [q13 17 (by decide) (by decide)]
    by_cases e : q'.1 15 3 i = 0
    · rw [if_pos e]
      exact h0
    · have l' : q'.1 15 3 i = cn 1 := by
        rcases (hcell i hi).1 with ⟨-, w⟩ | ⟨w, -⟩
        · exact absurd w e
        · exact w
      have l := hlv i hi l'
      have l0 : ¬ q.1 15 3 i = 0 := by
        rw [l]
        exact cn01
      rw [if_neg e, if_neg l0]
      exact Int.le_refl _
  refine ⟨⟨⟨⟨fun i hi => (hcell i hi).1, fun i h1 h2 => ?_⟩, ⟨fun i j hi hj li lj hn => ?_, fun i hi li => ?_, ?_, ?_, hNR.2.2.2.2⟩, ⟨fun i j hi hj si sj hbk hy => ?_, fun i hi si => ?_, ?_, ?_, hTR.2.2.2.2⟩, fun i j hi hj li lj => ?_⟩, ?_, ?_, ?_, ?_, ?_, ?_, ?_⟩, hRS, fun i hi h => ⟨hst i hi h, by rw [q13 16 (by decide) (by decide)], by rw [q13 19 (by decide) (by decide)]⟩⟩
  · obtain ⟨w3, -⟩ := d4 i h2 (fun h => h.1 (hO.2 i h1 h2))
    rw [w3]
    exact hO.2 i h1 h2
  · rw [q13 14 (by decide) (by decide)] at hn
    exact hNR.1 i j hi hj (hlv i hi li) (hlv j hj lj) hn
  · rw [q13 14 (by decide) (by decide)]
    exact hNR.2.1 i hi (hlv i hi li)
  · rw [pk 6 (by decide) (by decide)]
    exact hNR.2.2.1
  · rw [q12]
    exact hNR.2.2.2.1
  · rw [q13 16 (by decide) (by decide)] at hbk
    rw [q15 4 (by decide)] at hy
    rw [p10 _ 12 (by decide) (by decide), p10 _ 12 (by decide) (by decide), q13 23 (by decide) (by decide)]
    exact hTR.1 i j hi hj (hst i hi si) (hst j hj sj) hbk hy
  · rw [p10 _ 12 (by decide) (by decide), q13 23 (by decide) (by decide)]
    exact hTR.2.1 i hi (hst i hi si)
  · rw [pk 6 (by decide) (by decide)]
    exact hTR.2.2.1
  · rw [q12]
    exact hTR.2.2.2.1
  · rw [q13 19 (by decide) (by decide), q13 15 (by decide) (by decide), q13 16 (by decide) (by decide), q15 4 (by decide)]
    exact hQU i j hi hj (hlv i hi li) (hlv j hj lj)
  · exact af_c (pk 0 (by decide) (by decide)) (fun i _ => by rw [pk 13 (by decide) (by decide)]) (by rw [c2]) (q13 1 (by decide) (by decide)) (q13 2 (by decide) (by decide)) (q13 3 (by decide) (by decide)) (q13 4 (by decide) (by decide)) (q13 5 (by decide) (by decide)) (q15 1 (by decide)) (by rw [d2]) hA
  · intro c hc
    have h := hB c hc
    unfold BkR at h ⊢
    obtain ⟨b1', b2, b3, b4, b5, b6, b7⟩ := h
    rw [p1 _ 3 (by decide), p1 _ 4 (by decide), p1 _ 9 (by decide), p1 _ 10 (by decide), p1 _ 11 (by decide), p1 _ 12 (by decide), q13 10 (by decide) (by decide), q13 11 (by decide) (by decide), q13 6 (by decide) (by decide), q13 7 (by decide) (by decide), q13 8 (by decide) (by decide), q13 9 (by decide) (by decide)]
    refine ⟨b1', b2, ?_, b4, b5, b6, b7⟩
    by_cases e : c = b
    · rw [e]
      exact Or.inl ⟨c5, d5⟩
    · unfold AucR at b3 ⊢
      rw [p1j _ 5 (by omega), p1 _ 7 (by decide), p1 _ 8 (by decide), p1 _ 6 (by decide), q12c c e, q13 13 (by decide) (by decide), q15 2 (by decide)]
      exact b3
  · exact dr_c (pk 4 (by decide) (by decide)) (pk 7 (by decide) (by decide)) (by rw [c2]) (fun i k1 k2 => q13 i (by omega) (by omega)) (q15 7 (by decide)) (q15 8 (by decide)) (by rw [q12]) hD
  · obtain ⟨j1, j2⟩ := hK
    refine ⟨fun c hc => ?_, fun c hc => ?_⟩
    · rw [pk 0 (by decide) (by decide)]
      exact j1 c hc
    · rw [p1 _ 0 (by decide), p1 _ 1 (by decide), p1 _ 2 (by decide)]
      exact j2 c hc
  · exact ot_c (pk 9 (by decide) (by decide)) (fun i _ => by rw [pk 13 (by decide) (by decide)]) (pk 2 (by decide) (by decide)) (by rw [pk 6 (by decide) (by decide)]) (by rw [pk 6 (by decide) (by decide)]) (fun i k1 k2 => q13 i (by omega) (by omega)) (q15 9 (by decide)) (q15 10 (by decide)) (fun i _ => by rw [q12]) hI0 (pd_c (q13 1 (by decide) (by decide)) (by rw [q12]) (by rw [d2]) hI0)
  · obtain ⟨i1, i2, i3, i4⟩ := hI
    refine ⟨fun i hi h => ?_, fun i hi hw h => ?_, fun i u hi h => ?_, fun c hc h => ?_⟩
    · rw [q15 5 (by decide), q13 16 (by decide) (by decide)]
      intro h5
      obtain ⟨c, e1, e2, e3⟩ := i1 i hi (hst i hi h) h5
      have hne : ¬ c = b := by
        intro e
        rw [e] at e2
        exact (hcell i hi).2.2.1 h.1 h5 (hst i hi h) e2
      exact ⟨c, e1, e2, by rw [q12c c hne]; exact e3⟩
    · rw [q13 16 (by decide) (by decide), q13 19 (by decide) (by decide)]
      intro _ hk
      by_cases e : q.1 13 16 i = cn b
      · exact (hcell i hi).2.2.2.1 (hst i hi h) e hk
      · rw [(hcell i hi).2.2.2.2 e]
        exact i2 i hi hw (hst i hi h) e hk
    · rw [q13 16 (by decide) (by decide), q13 19 (by decide) (by decide), q13 24 (by decide) (by decide), q13 28 (by decide) (by decide), q13 30 (by decide) (by decide)]
      exact i3 i u hi (hlv i hi h)
    · have hne : ¬ c = b := by
        intro e
        rw [e, d5] at h
        exact absurd rfl h
      rw [q12c c hne] at h ⊢
      rw [q12]
      obtain ⟨e, t, e1, e2, e3, e4, e5⟩ := i4 c hc h
      refine ⟨e, t, e1, e2, e3, e4, ?_⟩
      by_cases hcb : c < b
      · rw [if_pos hcb] at e5
        rw [if_pos (by omega)]
        exact e5
      · rw [if_neg hcb] at e5
        rw [if_neg (by omega)]
        exact e5
  · refine ⟨fun c hc => ?_, ?_⟩
    · obtain ⟨zz, z1, z2, z3⟩ := hF.1 c hc
      exact ⟨zz, by rw [q13 4 (by decide) (by decide)]; exact z1, z2, by omega⟩
    · obtain ⟨zb, L, b1, b2, b3, b4, b5⟩ := hF.2
      exact ⟨zb, L, by rw [q13 4 (by decide) (by decide)]; exact b1, by rw [q12]; exact b2, b3, by omega, b5⟩
end Opened
