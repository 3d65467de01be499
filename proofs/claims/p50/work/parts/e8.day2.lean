/-! a day ends: references, and the next day -/
section Day2
variable {p q : PM} {lg : Nat → Int32} {b N T D l : Nat}
theorem ww_refy {y : Nat} {z : Int} (H : WW p q lg 99 y (fun _ => False) N T D l (fun _ => 0)) (hb : b < 6) (hz : PrB b z) : WW (pI p 1 (b + 1) 4 (cn z)) (pI q 13 11 b (cn z)) lg 99 y (fun _ => False) N T D l (fun _ => 0) := by
  have e : ∀ j S, ¬ S = 4 → (pI p 1 (b + 1) 4 (cn z)).1 1 j S = p.1 1 j S := fun j S h => by rw [pI_1, u3_s h]
  have e13 : ∀ K, ¬ K = 11 → (pI q 13 11 b (cn z)).1 13 K = q.1 13 K := by
    intro K h
    funext i
    rw [pI_1, u3_i h]
  refine ww_bk H (fun K h => ?_) rfl (fun K h => e13 K (by omega)) (fun K h => ?_) (fun k h h' => ?_) rfl (fun c hc => ?_) ?_ (fun i hi hs h => ?_) (fun c hc h => ?_)
  · funext i S
    rw [pI_1, u3_k h]
  · funext i
    rw [pI_1, u3_k (by decide)]
  · funext i S
    rw [pI_1, u3_k h]
  · have h := H.2.2.1 c hc
    have e15 : (pI q 13 11 b (cn z)).1 15 2 c = q.1 15 2 c := by rw [pI_1, u3_k (by decide)]
    unfold BkR AucR at h ⊢
    obtain ⟨h1, h2, h3, h4, h5, h6, h7⟩ := h
    rw [e _ 3 (by decide), e _ 5 (by decide), e _ 6 (by decide), e _ 7 (by decide), e _ 8 (by decide), e _ 9 (by decide), e _ 10 (by decide), e _ 11 (by decide), e _ 12 (by decide), e13 10 (by decide), e13 12 (by decide), e13 13 (by decide), e13 6 (by decide), e13 7 (by decide), e13 8 (by decide), e13 9 (by decide), e15]
    refine ⟨h1, ?_, h3, h4, h5, h6, h7⟩
    by_cases ec : c = b
    · rw [ec]
      exact ⟨z, hz, pI_at, pI_at⟩
    · rw [pI_1, u3_i (by omega), pI_1, u3_s ec]
      exact h2
  · obtain ⟨j1, j2⟩ := H.2.2.2.2.1
    refine ⟨fun c hc => ?_, fun c hc => ?_⟩
    · rw [pI_1, u3_k (by decide), u3_k (by decide)]
      exact j1 c hc
    · rw [e _ 0 (by decide), e _ 1 (by decide), e _ 2 (by decide)]
      exact j2 c hc
  · rw [e13 12 (by decide)]
    exact H.2.2.2.2.2.2.1.1 i hi hs h
  · rw [e13 12 (by decide)] at h ⊢
    rw [pI_1, u3_k (by decide)]
    exact H.2.2.2.2.2.2.1.2.2.2 c hc h
theorem ref_loop {C : Int32} : ∀ (d b n n' : Nat) (p q : PM), b + d = 6 → d < n → d < n' → WW p q lg 99 99 (fun _ => False) N T D l (fun _ => 0) → ∃ P Q : PM, (v6_turnDay_71 n p C (cn b) = (C, pI P 6 1 3 (P.1 6 1 3 + cn 1)) ∧ g6_turnDay_71 n p C (cn b)) ∧ (v12_doEndDay_101 n' q (cn 1) C (cn b) = (C, pI Q 12 1 18 (Q.1 12 1 18 + cn 1)) ∧ g12_doEndDay_101 n' q (cn 1) C (cn b)) ∧ WW P Q lg 99 99 (fun _ => False) N T D l (fun _ => 0) ∧ RS Q 40 = RS q 40 ∧ Q.1 12 = q.1 12 := by
  intro d
  induction d with
  | zero =>
    intro b n n' p q h1 h2 h3 H
    obtain ⟨n1, rfl⟩ : ∃ m, n = m + 1 := ⟨n - 1, by omega⟩
    obtain ⟨n2, rfl⟩ : ∃ m, n' = m + 1 := ⟨n' - 1, by omega⟩
    have e : b = 6 := by omega
    subst e
    have hn := lpf (i := 6) (N := 6) (by omega) (by omega) (by omega)
    refine ⟨p, q, ⟨?_, ?_⟩, ⟨?_, ?_⟩, H, rfl, rfl⟩
    · rw [ev6_turnDay_71]
      unfold bv6_turnDay_71
      rw [if_neg hn]
    · rw [eg6_turnDay_71]
      unfold bg6_turnDay_71
      rw [if_neg hn]
      trivial
    · rw [ev12_doEndDay_101]
      unfold bv12_doEndDay_101
      rw [if_neg hn, if_neg cn01]
    · rw [eg12_doEndDay_101]
      unfold bg12_doEndDay_101
      rw [if_neg hn, if_neg cn01]
      trivial
  | succ d ih =>
    intro b n n' p q h1 h2 h3 H
    obtain ⟨n1, rfl⟩ : ∃ m, n = m + 1 := ⟨n - 1, by omega⟩
    obtain ⟨n2, rfl⟩ : ∃ m, n' = m + 1 := ⟨n' - 1, by omega⟩
    have hb : b < 6 := by omega
    have hib := cninb (i := b) (n := 6) hb (by omega)
    have l6 : cn (b : Int) < cn 6 := lpt (by omega) (by omega)
    obtain ⟨z, hz, z1, z2⟩ := (H.2.2.1 b hb).1
    have W := ww_refy H hb hz
    obtain ⟨P, Q, ⟨k1, k2⟩, ⟨k3, k4⟩, k5, k6, k7⟩ := ih (b + 1) n1 n2 _ _ (by omega) (by omega) (by omega) W
    have hRS : RS (pI q 13 11 b (cn z)) 40 = RS q 40 := RS_same 40 fun i _ => by
      unfold rs
      rw [pI_1, u3_k (by decide), u3_i (by decide)]
    refine ⟨P, Q, ⟨?_, ?_⟩, ⟨?_, ?_⟩, k5, k6.trans hRS, k7.trans (by
      funext i S
      rw [pI_1, u3_k (by decide)])⟩
    · rw [ev6_turnDay_71]
      unfold bv6_turnDay_71
      simp only [if_pos l6, cntk (i := b) (by omega), z1, cnsucc]
      exact k1
    · rw [eg6_turnDay_71]
      unfold bg6_turnDay_71
      simp only [if_pos l6, cntk (i := b) (by omega), z1, cnsucc]
      exact ⟨hib, k2⟩
    · rw [ev12_doEndDay_101]
      unfold bv12_doEndDay_101
      simp only [if_pos l6, if_neg cn01, cntk (i := b) (by omega), z2, cnsucc]
      exact k3
    · rw [eg12_doEndDay_101]
      unfold bg12_doEndDay_101
      simp only [if_pos l6, if_neg cn01, cntk (i := b) (by omega), z2, cnsucc]
      exact ⟨hib, hib, k4⟩
end Day2
