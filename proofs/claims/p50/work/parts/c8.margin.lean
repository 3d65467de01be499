/-! moves, haircuts, funds -/
section Margin
variable {p q : PM} {lg : Nat → Int32} {N T D l : Nat}
theorem ww_move2 {s c : Nat} {v : Int} (H : WW p q lg 99 99 (fun _ => False) N T D l (fun _ => 0)) (hs : s < 4) (hc : c < 4) (v1 : -99 ≤ v) (v2 : v ≤ 99) : g2_changeMove p (cn s) (cn c) (cn v) ∧ EvR lg q N T D l 60 0 (v2_changeMove p (cn s) (cn c) (cn v)) (q.1 13 35 (4 * s + c), pI q 13 35 (4 * s + c) (cn v)) := by
  obtain ⟨a1, a2, a3, a4, a5, a6, a7, a8, a9, a10, a11⟩ := H.2.2.2.2.2.1
  obtain ⟨x, x1, x2, x3, x4⟩ := a2 s c hs hc
  have n0 : ¬ cn (s : Int) < 0 := by
    rw [zcn, cnlt ⟨by omega, by omega⟩ (by decide)]
    omega
  have m0 : ¬ cn (c : Int) < 0 := by
    rw [zcn, cnlt ⟨by omega, by omega⟩ (by decide)]
    omega
  have n4 : cn (s : Int) < cn 4 := lpt (by omega) (by decide)
  have m4 : cn (c : Int) < cn 4 := lpt (by omega) (by decide)
  have is4 := cninb (i := s) (n := 4) hs (by omega)
  have ic4 := cninb (i := c) (n := 4) hc (by omega)
  have eS : s + 20 = 20 + s := by omega
  have em : v2_moveOf p (cn s) (cn c) = p.1 13 (20 + s) c ∧ g2_moveOf p (cn s) (cn c) := by
    unfold v2_moveOf bv2_moveOf g2_moveOf bg2_moveOf
    simp only [if_neg n0, if_pos n4, if_neg m0, if_pos m4, cntk (i := s) (by omega), cntk (i := c) (by omega), eS]
    refine ⟨trivial, ?_⟩
    repeat' first
      | with_reducible exact is4
      | with_reducible exact ic4
      | with_reducible exact (⟨by omega, by omega⟩ : 20 ≤ 20 + s ∧ 20 + s ≤ 23)
      | exact trivial
      | exact not_false
      | apply And.intro
      | (split <;> rename_i h9 <;> first | simp only [if_neg h9, if_true, if_false] | simp only [if_pos h9, if_true, if_false] | skip)
  have eC : v2_changeMove p (cn s) (cn c) (cn v) = (p.1 13 (20 + s) c, pI p 13 (20 + s) c (cn v)) ∧ g2_changeMove p (cn s) (cn c) (cn v) := by
    unfold v2_changeMove bv2_changeMove g2_changeMove bg2_changeMove
    simp only [em.1, if_neg n0, if_pos n4, if_neg m0, if_pos m4, cntk (i := s) (by omega), cntk (i := c) (by omega), eS]
    exact ⟨trivial, em.2, is4, ⟨by omega, by omega⟩, ⟨⟨by omega, by omega⟩, ic4⟩, trivial⟩
  have ek : ∀ K, ¬ K = 13 → (pI p 13 (20 + s) c (cn v)).1 K = p.1 K := by
    intro K h
    funext i S
    rw [pI_1, u3_k h]
  have e13 : ∀ K, ¬ K = 35 → (pI q 13 35 (4 * s + c) (cn v)).1 13 K = q.1 13 K := by
    intro K h
    funext i
    rw [pI_1, u3_i h]
  have eqk : ∀ K, ¬ K = 13 → (pI q 13 35 (4 * s + c) (cn v)).1 K = q.1 K := by
    intro K h
    funext i S
    rw [pI_1, u3_k h]
  refine ⟨eC.2, ?_⟩
  rw [eC.1]
  refine ev0 (by rw [x3, x4]) (ww_ot H (fun K _ _ h => ek K h) (fun i hi => by
    funext S
    rw [pI_1, u3_i (by omega)]) rfl (fun K h => e13 K (by omega)) (fun K _ _ => by rw [eqk 15 (by decide)]) (fun S _ => by rw [eqk 12 (by decide)]) rfl ⟨fun m hm => ?_, fun s' c' hs' hc' => ?_, ?_, ?_, ?_, ?_, ?_, fun j => ?_, ?_, ?_, pd_c (e13 1 (by decide)) (by rw [eqk 12 (by decide)]) rfl H.2.2.2.2.2.1⟩)
  · rw [ek 9 (by decide), e13 36 (by decide), e13 37 (by decide), e13 38 (by decide), e13 39 (by decide), eqk 15 (by decide)]
    exact a1 m hm
  · by_cases e : s' = s ∧ c' = c
    · rw [e.1, e.2]
      exact ⟨v, v1, v2, pI_at, pI_at⟩
    · rw [pI_1, u3_ne (fun h => e ⟨by omega, h.2.2⟩), pI_1, u3_ne (fun h => e ⟨by omega, by omega⟩)]
      exact a2 s' c' hs' hc'
  · rw [ek 2 (by decide), eqk 12 (by decide)]
    exact a3
  · rw [ek 2 (by decide), eqk 12 (by decide)]
    exact a4
  · rw [ek 2 (by decide), eqk 12 (by decide)]
    exact a5
  · rw [ek 6 (by decide), eqk 12 (by decide)]
    exact a6
  · rw [ek 6 (by decide), eqk 12 (by decide)]
    exact a7
  · rw [e13 40 (by decide)]
    exact a8 j
  · rw [eqk 12 (by decide)]
    exact a9
  · rw [eqk 12 (by decide)]
    exact a10
theorem ww_hair {v : Int} (H : WW p q lg 99 99 (fun _ => False) N T D l (fun _ => 0)) (v1 : 0 ≤ v) (v2 : v ≤ 100) : g2_changeHaircut p (cn v) ∧ EvR lg q N T D l 60 0 (v2_changeHaircut p (cn v)) (q.1 12 1 50, pI q 12 1 50 (cn v)) := by
  obtain ⟨a1, a2, a3, a4, a5, a6, a7, a8, a9, a10, a11⟩ := H.2.2.2.2.2.1
  obtain ⟨x, x1, x2, x3, x4⟩ := a3
  have ek : ∀ K, ¬ K = 2 → (pI p 2 1 4 (cn v)).1 K = p.1 K := by
    intro K h
    funext i S
    rw [pI_1, u3_k h]
  have e2 : ∀ S, ¬ S = 4 → (pI p 2 1 4 (cn v)).1 2 1 S = p.1 2 1 S := fun S h => by rw [pI_1, u3_s h]
  have eqk : ∀ K, ¬ K = 12 → (pI q 12 1 50 (cn v)).1 K = q.1 K := by
    intro K h
    funext i S
    rw [pI_1, u3_k h]
  have e12 : ∀ S, ¬ S = 50 → (pI q 12 1 50 (cn v)).1 12 1 S = q.1 12 1 S := fun S h => by rw [pI_1, u3_s h]
  have eC : v2_changeHaircut p (cn v) = (p.1 2 1 4, pI p 2 1 4 (cn v)) := rfl
  refine ⟨trivial, ?_⟩
  rw [eC]
  refine ev0 (by rw [x3, x4]) (ww_ot H (fun K h _ _ => ek K h) (fun i hi => by rw [ek 13 (by decide)]) rfl (fun K h => by rw [eqk 13 (by decide)]) (fun K _ _ => by rw [eqk 15 (by decide)]) (fun S h => e12 S (by omega)) rfl ⟨fun m hm => ?_, fun s' c' hs' hc' => ?_, ⟨v, v1, v2, pI_at, pI_at⟩, ?_, ?_, ?_, ?_, fun j => ?_, ?_, ?_, pd_c (by rw [eqk 13 (by decide)]) (e12 48 (by decide)) rfl H.2.2.2.2.2.1⟩)
  · rw [ek 9 (by decide), eqk 13 (by decide), eqk 15 (by decide)]
    exact a1 m hm
  · rw [ek 13 (by decide), eqk 13 (by decide)]
    exact a2 s' c' hs' hc'
  · rw [e2 5 (by decide), e12 58 (by decide)]
    exact a4
  · rw [e2 6 (by decide), e12 57 (by decide)]
    exact a5
  · rw [ek 6 (by decide), e12 17 (by decide)]
    exact a6
  · rw [ek 6 (by decide), e12 18 (by decide)]
    exact a7
  · rw [eqk 13 (by decide)]
    exact a8 j
  · rw [e12 60 (by decide)]
    exact a9
  · rw [e12 61 (by decide)]
    exact a10
theorem ww_fund {m0 : Nat} {v : Int} (H : WW p q lg 99 99 (fun _ => False) N T D l (fun _ => 0)) (hm0 : m0 < 4) (v1 : 0 ≤ v) (v2 : v ≤ 9999) : g2_changeFund p (cn m0) (cn v) ∧ EvR lg q N T D l 60 0 (v2_changeFund p (cn m0) (cn v)) (q.1 13 38 m0, pI q 13 38 m0 (cn v)) := by
  obtain ⟨a1, a2, a3, a4, a5, a6, a7, a8, a9, a10, a11⟩ := H.2.2.2.2.2.1
  obtain ⟨-, -, ⟨x, x1, x2, x3, x4⟩, -⟩ := a1 m0 hm0
  have hz : ¬ m0 + 1 = 0 := by omega
  have em := member_e p hm0
  have gm := g_member p hm0
  have ek : ∀ K, ¬ K = 9 → (pI p 9 (m0 + 1) 2 (cn v)).1 K = p.1 K := by
    intro K h
    funext i S
    rw [pI_1, u3_k h]
  have e9 : ∀ i S, ¬ S = 2 → (pI p 9 (m0 + 1) 2 (cn v)).1 9 i S = p.1 9 i S := fun i S h => by rw [pI_1, u3_s h]
  have e13 : ∀ K, ¬ K = 38 → (pI q 13 38 m0 (cn v)).1 13 K = q.1 13 K := by
    intro K h
    funext i
    rw [pI_1, u3_i h]
  have eqk : ∀ K, ¬ K = 13 → (pI q 13 38 m0 (cn v)).1 K = q.1 K := by
    intro K h
    funext i S
    rw [pI_1, u3_k h]
  have eC : v2_changeFund p (cn m0) (cn v) = (p.1 9 (m0 + 1) 2, pI p 9 (m0 + 1) 2 (cn v)) ∧ g2_changeFund p (cn m0) (cn v) := by
    unfold v2_changeFund bv2_changeFund g2_changeFund bg2_changeFund
    simp only [em]
    exact ⟨trivial, gm, hz, hz, trivial⟩
  refine ⟨eC.2, ?_⟩
  rw [eC.1]
  refine ev0 (by rw [x3, x4]) (ww_ot H (fun K _ h _ => ek K h) (fun i hi => by rw [ek 13 (by decide)]) rfl (fun K h => e13 K (by omega)) (fun K _ _ => by rw [eqk 15 (by decide)]) (fun S _ => by rw [eqk 12 (by decide)]) rfl ⟨fun m hm => ?_, fun s' c' hs' hc' => ?_, ?_, ?_, ?_, ?_, ?_, fun j => ?_, ?_, ?_, pd_c (e13 1 (by decide)) (by rw [eqk 12 (by decide)]) rfl H.2.2.2.2.2.1⟩)
  · obtain ⟨h1, h2, h3, h4⟩ := a1 m hm
    rw [e9 _ 0 (by decide), e9 _ 1 (by decide), e9 _ 3 (by decide), e9 _ 4 (by decide), e9 _ 5 (by decide), e13 36 (by decide), e13 37 (by decide), e13 39 (by decide), eqk 15 (by decide)]
    refine ⟨h1, h2, ?_, h4⟩
    by_cases e : m = m0
    · rw [e]
      exact ⟨v, v1, v2, pI_at, pI_at⟩
    · rw [pI_1, u3_i (by omega), pI_1, u3_s e]
      exact h3
  · rw [ek 13 (by decide), e13 35 (by decide)]
    exact a2 s' c' hs' hc'
  · rw [ek 2 (by decide), eqk 12 (by decide)]
    exact a3
  · rw [ek 2 (by decide), eqk 12 (by decide)]
    exact a4
  · rw [ek 2 (by decide), eqk 12 (by decide)]
    exact a5
  · rw [ek 6 (by decide), eqk 12 (by decide)]
    exact a6
  · rw [ek 6 (by decide), eqk 12 (by decide)]
    exact a7
  · rw [e13 40 (by decide)]
    exact a8 j
  · rw [eqk 12 (by decide)]
    exact a9
  · rw [eqk 12 (by decide)]
    exact a10
end Margin
