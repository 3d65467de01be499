/-! pieces of an auction's end -/
section Ends
variable {p q : PM} {lg : Nat → Int32} {b N T D l : Nat}
/-- in the book b the shown parts are not looked at from now on -/
theorem ww_y (H : WW p q lg 99 99 (fun _ => False) N T D l (fun _ => 0)) (hb : b < 6) : WW p q lg 99 b (fun _ => False) N T D l (fun _ => 0) := by
  obtain ⟨⟨hO, hNR, hTR, hQU⟩, hA, hB, hD, hK, hI0, ⟨i1, i2, i3, i4⟩, hF⟩ := H
  refine ⟨⟨⟨fun i hi => ?_, hO.2⟩, hNR, hTR, hQU⟩, hA, hB, hD, hK, hI0, ⟨i1, fun i hi hw hs _ hk => ?_, i3, i4⟩, hF⟩
  · rcases hO.1 i hi with h | ⟨s1, a, bi, r, s, z, g1, g2, g3, g4, g5, g6, g7, g8, g9, g10, g11, g12, hs⟩
    · exact Or.inl h
    · refine Or.inr ⟨s1, a, bi, r, s, z, g1, g2, g3, g4, g5, g6, g7, g8, g9, g10, g11, g12, ?_⟩
      rcases hs with w | ⟨w1, w2, w3, w, w4, w5, w6, w7⟩ | w
      · exact Or.inl w
      · exact Or.inr (Or.inl ⟨w1, w2, w3, w, w4, w5, fun _ => w6 (by have := g2.1; omega), w7⟩)
      · exact Or.inr (Or.inr w)
  · refine i2 i hi hw hs (fun h => ?_) hk
    rcases hO.1 i hi with ⟨-, w⟩ | ⟨-, a, bi, r, s, z, -, g2, -⟩
    · have := hs.1
      rw [w] at this
      exact absurd this (by decide)
    · have := g2.1
      rw [g2.2.1, cneq ⟨by omega, by omega⟩ ⟨by omega, by omega⟩] at h
      omega
/-- the price of the auction becomes the reference -/
theorem ww_refp {z : Int} (H : WW p q lg 99 b (fun _ => False) N T D l (fun _ => 0)) (hb : b < 6) (hz : PrB b z) : WW (pI p 1 (b + 1) 4 (cn z)) (pI q 13 11 b (cn z)) lg 99 b (fun _ => False) N T D l (fun _ => 0) := by
  have e : ∀ j S, ¬ S = 4 → (pI p 1 (b + 1) 4 (cn z)).1 1 j S = p.1 1 j S := fun j S h => by rw [pI_1, u3_s h]
  have e13 : ∀ K, ¬ K = 11 → (pI q 13 11 b (cn z)).1 13 K = q.1 13 K := by
    intro K h
    funext i
    rw [pI_1, u3_i h]
  refine ww_bk H (fun K h => ?_) rfl (fun K h => e13 K (by omega)) (fun K h => ?_) (fun k h h' => ?_) rfl (fun c hc => ?_) ?_ (fun i hi hs h => ?_) (fun c hc h => ?_)
  · funext i S
    rw [pI_1, u3_k h]
  · funext i
    rw [pI_1, u3_k (by decide)]
  · funext i S
    rw [pI_1, u3_k h]
  · have h := H.2.2.1 c hc
    have e15 : (pI q 13 11 b (cn z)).1 15 2 c = q.1 15 2 c := by rw [pI_1, u3_k (by decide)]
    unfold BkR AucR at h ⊢
    obtain ⟨h1, h2, h3, h4, h5, h6, h7⟩ := h
    rw [e _ 3 (by decide), e _ 5 (by decide), e _ 6 (by decide), e _ 7 (by decide), e _ 8 (by decide), e _ 9 (by decide), e _ 10 (by decide), e _ 11 (by decide), e _ 12 (by decide), e13 10 (by decide), e13 12 (by decide), e13 13 (by decide), e13 6 (by decide), e13 7 (by decide), e13 8 (by decide), e13 9 (by decide), e15]
    refine ⟨h1, ?_, h3, h4, h5, h6, h7⟩
    by_cases ec : c = b
    · rw [ec]
      exact ⟨z, hz, pI_at, pI_at⟩
    · rw [pI_1, u3_i (by omega), pI_1, u3_s ec]
      exact h2
  · obtain ⟨j1, j2⟩ := H.2.2.2.2.1
    refine ⟨fun c hc => ?_, fun c hc => ?_⟩
    · rw [pI_1, u3_k (by decide), u3_k (by decide)]
      exact j1 c hc
    · rw [e _ 0 (by decide), e _ 1 (by decide), e _ 2 (by decide)]
      exact j2 c hc
  · rw [e13 12 (by decide)]
    exact H.2.2.2.2.2.2.1.1 i hi hs h
  · rw [e13 12 (by decide)] at h ⊢
    rw [pI_1, u3_k (by decide)]
    exact H.2.2.2.2.2.2.1.2.2.2 c hc h
/-- it goes on for 5 ticks -/
theorem ww_ext {t : Nat} (H : WW p q lg 99 99 (fun _ => False) N T D b (fun _ => 0)) (hb : b < 6) (h17 : q.1 12 1 17 = cn t) (ht : t ≤ 900000) (hin : ¬ q.1 13 12 b = cn (-100000)) : WW (pI (pI p 1 (b + 1) 7 (cn (t + 5 : Nat))) 1 (b + 1) 6 (cn 1)) (pI (pI q 15 2 b (cn 1)) 13 12 b (cn (t + 5 : Nat))) lg 99 99 (fun _ => False) N T D (b + 1) (fun _ => 0) ∧ RS (pI (pI q 15 2 b (cn 1)) 13 12 b (cn (t + 5 : Nat))) 40 = RS q 40 := by
  have e : ∀ j S, ¬ S = 7 → ¬ S = 6 → (pI (pI p 1 (b + 1) 7 (cn (t + 5 : Nat))) 1 (b + 1) 6 (cn 1)).1 1 j S = p.1 1 j S := fun j S h h' => by rw [pI_1, u3_s h', pI_1, u3_s h]
  have ej : ∀ j S, ¬ j = b + 1 → (pI (pI p 1 (b + 1) 7 (cn (t + 5 : Nat))) 1 (b + 1) 6 (cn 1)).1 1 j S = p.1 1 j S := fun j S h => by rw [pI_1, u3_i h, pI_1, u3_i h]
  have e13 : ∀ K, ¬ K = 12 → (pI (pI q 15 2 b (cn 1)) 13 12 b (cn (t + 5 : Nat))).1 13 K = q.1 13 K := by
    intro K h
    funext i
    rw [pI_1, u3_i h, pI_1, u3_k (by decide)]
  have e12c : ∀ c, ¬ c = b → (pI (pI q 15 2 b (cn 1)) 13 12 b (cn (t + 5 : Nat))).1 13 12 c = q.1 13 12 c := fun c h => by rw [pI_1, u3_s h, pI_1, u3_k (by decide)]
  have e12b : (pI (pI q 15 2 b (cn 1)) 13 12 b (cn (t + 5 : Nat))).1 13 12 b = cn (t + 5 : Nat) := pI_at
  have e15 : ∀ K, ¬ K = 2 → (pI (pI q 15 2 b (cn 1)) 13 12 b (cn (t + 5 : Nat))).1 15 K = q.1 15 K := by
    intro K h
    funext i
    rw [pI_1, u3_k (by decide), pI_1, u3_i h]
  have ne5 : ¬ cn ((t + 5 : Nat) : Int) = cn (-100000) := by
    rw [cneq ⟨by omega, by omega⟩ (by decide)]
    omega
  refine ⟨ww_bk (l' := b + 1) H (fun K h => ?_) rfl (fun K h => e13 K (by omega)) e15 (fun k h h' => ?_) rfl (fun c hc => ?_) ?_ (fun i hi hs h => ?_) (fun c hc h => ?_), RS_same 40 fun i _ => ?_⟩
  · funext i S
    rw [pI_1, u3_k h, pI_1, u3_k h]
  · funext i S
    rw [pI_1, u3_k h, pI_1, u3_k h']
  · have h := H.2.2.1 c hc
    unfold BkR at h ⊢
    obtain ⟨h1, h2, h3, h4, h5, h6, h7⟩ := h
    rw [e _ 3 (by decide) (by decide), e _ 4 (by decide) (by decide), e _ 9 (by decide) (by decide), e _ 10 (by decide) (by decide), e _ 11 (by decide) (by decide), e _ 12 (by decide) (by decide), e13 10 (by decide), e13 11 (by decide), e13 6 (by decide), e13 7 (by decide), e13 8 (by decide), e13 9 (by decide)]
    refine ⟨h1, h2, ?_, h4, h5, h6, h7⟩
    by_cases ec : c = b
    · rw [ec] at h3 ⊢
      rcases h3 with ⟨-, w⟩ | ⟨w1, w2, w3, w4, w5, w6⟩
      · exact absurd w hin
      · refine Or.inr ⟨?_, ?_, ⟨(t + 5 : Nat), by omega, by omega, e12b⟩, ?_, ?_, ?_⟩
        · rw [e _ 5 (by decide) (by decide)]
          exact w1
        · rw [pI_1, u3_s (by decide), pI_at, e12b]
        · rw [e _ 8 (by decide) (by decide), e13 13 (by decide)]
          exact w4
        · rw [pI_at, pI_1, u3_k (by decide), pI_at]
        · rw [pI_1, u3_k (by decide), pI_at]
          exact b1
    · have e15c : (pI (pI q 15 2 b (cn 1)) 13 12 b (cn (t + 5 : Nat))).1 15 2 c = q.1 15 2 c := by rw [pI_1, u3_k (by decide), pI_1, u3_s ec]
      unfold AucR at h3 ⊢
      rw [ej _ 5 (by omega), ej _ 6 (by omega), ej _ 7 (by omega), ej _ 8 (by omega), e12c c ec, e13 13 (by decide), e15c]
      exact h3
  · obtain ⟨j1, j2⟩ := H.2.2.2.2.1
    refine ⟨fun c hc => ?_, fun c hc => ?_⟩
    · rw [pI_1, u3_k (by decide), pI_1, u3_k (by decide), u3_k (by decide), u3_k (by decide)]
      exact j1 c hc
    · rw [e _ 0 (by decide) (by decide), e _ 1 (by decide) (by decide), e _ 2 (by decide) (by decide)]
      exact j2 c hc
  · obtain ⟨c, k1, k2, k3⟩ := H.2.2.2.2.2.2.1.1 i hi hs h
    refine ⟨c, k1, k2, ?_⟩
    by_cases ec : c = b
    · rw [ec, e12b]
      exact ne5
    · rw [e12c c ec]
      exact k3
  · have e17 : (pI (pI q 15 2 b (cn 1)) 13 12 b (cn (t + 5 : Nat))).1 12 1 17 = cn t := by
      rw [pI_1, u3_k (by decide), pI_1, u3_k (by decide)]
      exact h17
    by_cases ec : c = b
    · rw [ec]
      refine ⟨t + 5, t, by omega, e12b, e17, ht, ?_⟩
      rw [if_pos (by omega)]
      omega
    · rw [e12c c ec] at h ⊢
      obtain ⟨e, t', k1, k2, k3, k4, k5⟩ := H.2.2.2.2.2.2.1.2.2.2 c hc h
      rw [h17, cneq ⟨by omega, by omega⟩ ⟨by omega, by omega⟩] at k3
      refine ⟨e, t, k1, k2, e17, ht, ?_⟩
      by_cases hcb : c < b
      · rw [if_pos hcb] at k5
        rw [if_pos (by omega)]
        omega
      · rw [if_neg hcb] at k5
        rw [if_neg (by omega)]
        omega
  · unfold rs
    rw [e15 3 (by decide), e13 17 (by decide)]
end Ends
