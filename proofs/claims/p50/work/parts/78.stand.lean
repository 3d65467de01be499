/-! an order comes to its book; the end and the start of a match -/
theorem g_stand (p : PM) (o : Nat) : g6_stand p (o + 1) := by
  have hz : ¬ o + 1 = 0 := by omega
  unfold g6_stand bg6_stand g10_showable bg10_showable g14_min_7cf53 bg14_min_7cf53 g6_nextTurn bg6_nextTurn
  repeat' first
    | with_reducible exact hz
    | exact trivial
    | exact not_false
    | apply And.intro
    | (split <;> rename_i h9 <;> first | simp only [if_neg h9, if_true, if_false] | simp only [if_pos h9, if_true, if_false] | skip)
theorem g_comes (q : PM) {o : Nat} (ho : o < 44) : g12_comes q (cn o) := by
  have hi := cninb (i := o) (n := 44) ho (by omega)
  unfold g12_comes bg12_comes g12_showsAnew bg12_showsAnew g12_newTurn bg12_newTurn
  repeat' first
    | with_reducible exact hi
    | exact trivial
    | exact not_false
    | apply And.intro
    | (split <;> rename_i h9 <;> first | simp only [if_neg h9, if_true, if_false] | simp only [if_pos h9, if_true, if_false] | skip)
theorem ww_stand {p q : PM} {lg : Nat → Int32} {y o N T D l : Nat} {w : Nat → Prop} {f : Nat → Int} (H : WW p q lg o y w N T D l f) (ho : o < 40) (hl : q.1 15 3 o = cn 1) (hy : ∀ b : Nat, b < 6 → q.1 13 16 o = cn b → ¬ b = y) (ha : q.1 15 5 o = cn 1 → ∀ b : Nat, b < 6 → q.1 13 16 o = cn b → ¬ q.1 13 12 b = cn (-100000)) (hk : q.1 13 19 o = cn 3 → q.1 13 24 o = cn 0) (hT : T + 1 ≤ 1000000000) : WW (v6_stand p (o + 1)) (v12_comes q (cn o)) lg 99 y w N (T + 1) D l f ∧ RS (v12_comes q (cn o)) 40 = RS q 40 := by
  obtain ⟨_, a, b, r, s, z, hL⟩ := slot_live (H.1.1.1 o ho) (by rw [hl]; exact cn01)
  obtain ⟨r1, r2, r3, r4⟩ := hL.2.2.2.2.2.2.2.1
  obtain ⟨s1, s2, s3, s4, s5⟩ := hL.2.2.2.2.2.2.2.2.1
  have hbk := hL.2.1
  obtain ⟨l1, l2⟩ := hL.2.2.2.2.2.1
  have t1 := H.1.2.2.1.2.2.1
  have t2 := H.1.2.2.1.2.2.2.1
  obtain ⟨m1, m2, m3, m4, m5⟩ : o = o ∧ p.1 10 (o + 1) 2 = cn 2 ∧ (q.1 13 24 o = cn 0 ∨ q.1 13 24 o = cn 2) ∧ p.1 10 (o + 1) 7 = cn (-100000) ∧ (q.1 13 19 o = cn 3 → q.1 13 24 o = cn 0 → CauseR p q o) := by
    rcases hL.2.2.2.2.2.2.2.2.2.2.2.2 with hs | hs | hs
    · exact hs
    · exact absurd rfl hs.1
    · exact absurd rfl hs.1
  unfold v6_stand bv6_stand v12_comes bv12_comes
  simp only [cntk (i := o) (by omega)]
  rw [showable_e (r := r) (s := s) _ (by simp (decide := true) only [pI_1, pI_J, pI_R, u3_same, u3_k, u3_i, u3_s, not_false_eq_true]; exact r3) (by simp (decide := true) only [pI_1, pI_J, pI_R, u3_same, u3_k, u3_i, u3_s, not_false_eq_true]; exact s3) ⟨by omega, by omega⟩ ⟨by omega, by omega⟩, shAn_e (r := r) (s := s) _ (by omega) (by simp (decide := true) only [pI_1, pI_J, pI_R, u3_same, u3_k, u3_i, u3_s, not_false_eq_true]; exact r4) (by simp (decide := true) only [pI_1, pI_J, pI_R, u3_same, u3_k, u3_i, u3_s, not_false_eq_true]; exact s4) ⟨by omega, by omega⟩ ⟨by omega, by omega⟩]
  rw [nextT_e (T := T) _ (by simp (decide := true) only [pI_1, pI_J, pI_R, u3_same, u3_k, u3_i, u3_s, not_false_eq_true]; exact t1), newT_e (T := T) _ (by omega) (by simp (decide := true) only [pI_1, pI_J, pI_R, u3_same, u3_k, u3_i, u3_s, not_false_eq_true]; exact t2)]
  generalize hm : (if s < r then s else r) = mm
  have hm1 : 1 ≤ mm ∧ mm ≤ r ∧ mm ≤ s := by rw [← hm]; split <;> omega
  have hm2 : ¬ q.1 13 19 o = cn 1 → mm = r := by
    intro h
    have := s5.resolve_left h
    rw [← hm]
    split <;> omega
  have e1 : (pI p 10 (o + 1) 2 (cn 1)).1 10 (o + 1) 6 = cn z := by simp (decide := true) only [pI_1, pI_J, pI_R, u3_same, u3_k, u3_i, u3_s, not_false_eq_true]; exact l1
  have e2 : (pI q 13 24 o (cn 1)).1 13 18 o = q.1 13 18 o := by simp (decide := true) only [pI_1, pI_J, pI_R, u3_same, u3_k, u3_i, u3_s, not_false_eq_true]
  rw [e1, e2]
  refine ww_st (x' := 99) (w' := w) (T' := T + 1) H ho hl hL ?_ ?_ ?_ rfl ?_ ?_ ?_ rfl ?_ ?_ ?_ ?_ ?_ ?_ ?_
  · intro i S hi
    by_cases e : i = o + 1
    · have h1 : ¬ S = 2 := fun e2 => hi ⟨e, by omega⟩
      have h2 : ¬ S = 7 := fun e2 => hi ⟨e, by omega⟩
      have h3 : ¬ S = 11 := fun e2 => hi ⟨e, by omega⟩
      have h4 : ¬ S = 12 := fun e2 => hi ⟨e, by omega⟩
      rw [e, pI_1, u3_s h4, pI_1, u3_k (by decide), pI_1, u3_s h3, pI_1, u3_s h2, pI_1, u3_s h1]
    · rw [pI_1, u3_i e, pI_1, u3_k (by decide), pI_1, u3_i e, pI_1, u3_i e, pI_1, u3_i e]
  · intro K k1 k2
    funext i S
    rw [pI_1, u3_k k1, pI_1, u3_k k2, pI_1, u3_k k1, pI_1, u3_k k1, pI_1, u3_k k1]
  · intro S k1
    rw [pI_1, u3_k (by decide), pI_1, u3_s k1, pI_1, u3_k (by decide), pI_1, u3_k (by decide), pI_1, u3_k (by decide)]
  · intro K i hi
    by_cases e : i = o
    · have h1 : ¬ K = 22 := fun e2 => hi ⟨e, by omega⟩
      have h2 : ¬ K = 23 := fun e2 => hi ⟨e, by omega⟩
      have h3 : ¬ K = 24 := fun e2 => hi ⟨e, by omega⟩
      have h4 : ¬ K = 25 := fun e2 => hi ⟨e, by omega⟩
      rw [pI_1, u3_k (by decide), pI_1, u3_i h2, pI_1, u3_i h1, pI_1, u3_i h4, pI_1, u3_i h3]
    · rw [pI_1, u3_k (by decide), pI_1, u3_s e, pI_1, u3_s e, pI_1, u3_s e, pI_1, u3_s e]
  · funext i S
    simp (decide := true) only [pI_1, pI_J, pI_R, u3_same, u3_k, u3_i, u3_s, not_false_eq_true]
  · intro S k1
    rw [pI_1, u3_s k1]
    simp (decide := true) only [pI_1, pI_J, pI_R, u3_same, u3_k, u3_i, u3_s, not_false_eq_true]
  · intro i hi h
    exact propext ⟨fun e => by omega, fun e => absurd e h⟩
  · refine Or.inr (Or.inl ⟨by omega, ?_, ?_, z, ?_, ?_, fun hy2 => ⟨mm, by omega, by omega, by omega, ?_, ?_⟩, ?_⟩)
    · simp (decide := true) only [pI_1, pI_J, pI_R, u3_same, u3_k, u3_i, u3_s, not_false_eq_true]
    · simp (decide := true) only [pI_1, pI_J, pI_R, u3_same, u3_k, u3_i, u3_s, not_false_eq_true]
    · simp (decide := true) only [pI_1, pI_J, pI_R, u3_same, u3_k, u3_i, u3_s, not_false_eq_true]
    · rcases l2 with ⟨g1, g2⟩ | ⟨g1, g2, g3⟩
      · refine Or.inl ⟨?_, g2⟩
        simp (decide := true) only [pI_1, pI_J, pI_R, u3_same, u3_k, u3_i, u3_s, not_false_eq_true]
        exact g1
      · refine Or.inr ⟨?_, g2, ?_, Or.inr rfl⟩
        · simp (decide := true) only [pI_1, pI_J, pI_R, u3_same, u3_k, u3_i, u3_s, not_false_eq_true]
          exact g1
        · simp (decide := true) only [pI_1, pI_J, pI_R, u3_same, u3_k, u3_i, u3_s, not_false_eq_true]
          exact g3
    · simp (decide := true) only [pI_1, pI_J, pI_R, u3_same, u3_k, u3_i, u3_s, not_false_eq_true]
    · by_cases hice : q.1 13 19 o = cn 1
      · refine Or.inl ⟨?_, ?_⟩
        · simp (decide := true) only [pI_1, pI_J, pI_R, u3_same, u3_k, u3_i, u3_s, not_false_eq_true]
          exact hice
        · simp (decide := true) only [pI_1, pI_J, pI_R, u3_same, u3_k, u3_i, u3_s, not_false_eq_true]
      · refine Or.inr ⟨?_, hm2 hice⟩
        simp (decide := true) only [pI_1, pI_J, pI_R, u3_same, u3_k, u3_i, u3_s, not_false_eq_true]
        exact hice
    · refine cause_c (p := p) (q := q) ?_ ?_ ?_ (fun h => m5 h (hk h))
      · simp (decide := true) only [pI_1, pI_J, pI_R, u3_same, u3_k, u3_i, u3_s, not_false_eq_true]
      · simp (decide := true) only [pI_1, pI_J, pI_R, u3_same, u3_k, u3_i, u3_s, not_false_eq_true]
      · simp (decide := true) only [pI_1, pI_J, pI_R, u3_same, u3_k, u3_i, u3_s, not_false_eq_true]
  · exact Or.inr ⟨rfl, hT, by simp (decide := true) only [pI_1, pI_J, pI_R, u3_same, u3_k, u3_i, u3_s, not_false_eq_true], by simp (decide := true) only [pI_1, pI_J, pI_R, u3_same, u3_k, u3_i, u3_s, not_false_eq_true], by simp (decide := true) only [pI_1, pI_J, pI_R, u3_same, u3_k, u3_i, u3_s, not_false_eq_true], by simp (decide := true) only [pI_1, pI_J, pI_R, u3_same, u3_k, u3_i, u3_s, not_false_eq_true]⟩
  · intro _ h
    exact ha h b hbk.1 hbk.2.1
  · intro _ _ _ _
    exact ⟨mm, by omega, by omega, by simp (decide := true) only [pI_1, pI_J, pI_R, u3_same, u3_k, u3_i, u3_s, not_false_eq_true]⟩
  · exact fun i _ h => h
  · intro h7 h8 t h9 h10
    have h11 : q.1 13 28 o = cn t := by
      rw [← h9]
      simp (decide := true) only [pI_1, pI_J, pI_R, u3_same, u3_k, u3_i, u3_s, not_false_eq_true]
    have := H.2.2.2.2.2.2.1.2.2.1 o t ho hl h7 (by rw [hk h7]; decide) h11 h10
    rw [hbk.2.1] at this
    exact this
