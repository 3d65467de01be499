/-! protections, limits, moves, haircuts, funds -/
section Small
variable {p q p' q' : PM} {lg : Nat → Int32} {a b N T D l : Nat}
theorem ev0 {p' q' : PM} {c r : Int32} (e : c = r) (W : WW p' q' lg 99 99 (fun _ => False) N T D l (fun _ => 0) ∧ RS q' 40 = RS q 40) : EvR lg q N T D l 60 0 (c, p') (r, q') := by
  obtain ⟨W, R⟩ := W
  exact ⟨e, N, T, D, ⟨Nat.le_refl _, Nat.le_refl _⟩, ⟨Nat.le_refl _, Nat.le_refl _⟩, W, by show (T : Int) + RS q' 40 ≤ _; omega, by show (D : Int) + RS q' 40 ≤ _; omega⟩
theorem ww_prot {v : Int} (H : WW p q lg 99 99 (fun _ => False) N T D l (fun _ => 0)) (ha : a < 8) (v1 : 0 ≤ v) (v2 : v ≤ 999) : g0_changeProtection p (a + 1) (cn v) ∧ EvR lg q N T D l 60 0 (v0_changeProtection p (a + 1) (cn v)) (q.1 13 3 a, pI q 13 3 a (cn v)) := by
  have hza : ¬ a + 1 = 0 := by omega
  obtain ⟨x, x1, x2, x3, x4⟩ := (H.2.1.2 a ha).2.2.1
  have e0 : ∀ i S, ¬ S = 5 → (pI p 0 (a + 1) 5 (cn v)).1 0 i S = p.1 0 i S := fun i S h => by rw [pI_1, u3_s h]
  have ek : ∀ K, ¬ K = 0 → (pI p 0 (a + 1) 5 (cn v)).1 K = p.1 K := by
    intro K h
    funext i S
    rw [pI_1, u3_k h]
  have e13 : ∀ K, ¬ K = 3 → (pI q 13 3 a (cn v)).1 13 K = q.1 13 K := by
    intro K h
    funext i
    rw [pI_1, u3_i h]
  have eqk : ∀ K, ¬ K = 13 → (pI q 13 3 a (cn v)).1 K = q.1 K := by
    intro K h
    funext i S
    rw [pI_1, u3_k h]
  refine ⟨⟨hza, hza, trivial⟩, ?_⟩
  have eC : v0_changeProtection p (a + 1) (cn v) = (p.1 0 (a + 1) 5, pI p 0 (a + 1) 5 (cn v)) := rfl
  rw [eC]
  refine ev0 (by rw [x3, x4]) (ww_ac H (fun K h _ => ek K h) (fun i _ => by rw [ek 13 (by decide)]) rfl (fun K h => e13 K (by omega)) (fun K _ => by rw [eqk 15 (by decide)]) (eqk 12 (by decide)) ?_ ?_ (pd_c (e13 1 (by decide)) (by rw [eqk 12 (by decide)]) rfl H.2.2.2.2.2.1) ?_)
  · obtain ⟨j1, j2⟩ := H.2.2.2.2.1
    refine ⟨fun c hc => ?_, fun c hc => ?_⟩
    · rw [e0 _ 0 (by decide), e0 _ 1 (by decide)]
      exact j1 c hc
    · rw [ek 1 (by decide)]
      exact j2 c hc
  · refine ⟨fun c hc => ?_, fun c hc => ⟨(H.2.1.2 c hc).1, ?_⟩⟩
    · have h := H.2.1.1 c hc
      unfold AcR at h ⊢
      rw [ek 13 (by decide), e13 1 (by decide)]
      exact h
    · obtain ⟨h1, h2, h3, h4, h5⟩ := (H.2.1.2 c hc).2
      unfold TrF
      rw [ek 13 (by decide), e13 2 (by decide), e13 4 (by decide), e13 5 (by decide), e0 _ 6 (by decide), e0 _ 7 (by decide), e0 _ 8 (by decide), eqk 15 (by decide)]
      refine ⟨h1, ?_, h3, h4, h5⟩
      by_cases ec : c = a
      · rw [ec]
        exact ⟨v, v1, v2, pI_at, pI_at⟩
      · rw [pI_1, u3_i (by omega), pI_1, u3_s ec]
        exact h2
  · have hRS9 : RS (pI q 13 3 a (cn v)) 40 = RS q 40 := RS_same (q := q) (q' := pI q 13 3 a (cn v)) 40 fun i _ => by
      unfold rs
      rw [eqk 15 (by decide), e13 17 (by decide)]
    refine ⟨fun c hc => ?_, ?_⟩
    rotate_left
    · obtain ⟨zb, L, b1, b2, b3, b4, b5⟩ := H.2.2.2.2.2.2.2.2
      exact ⟨zb, L, by rw [e13 4 (by decide)]; exact b1, by rw [eqk 12 (by decide)]; exact b2, b3, by rw [hRS9]; exact b4, b5⟩
    obtain ⟨zz, z1, z2, z3⟩ := H.2.2.2.2.2.2.2.1 c hc
    refine ⟨zz, by rw [e13 4 (by decide)]; exact z1, z2, ?_⟩
    rw [RS_same (q := q) (q' := pI q 13 3 a (cn v)) 40 fun i _ => by
      unfold rs
      rw [eqk 15 (by decide), e13 17 (by decide)]]
    exact z3
theorem ww_lim {v : Int} {c0 : Nat} (H : WW p q lg 99 99 (fun _ => False) N T D l (fun _ => 0)) (ha : a < 8) (hc0 : c0 < 4) (v1 : 0 ≤ v) (v2 : v ≤ 999) : g0_changeLimit p (a + 1) (cn c0) (cn v) ∧ EvR lg q N T D l 60 0 (v0_changeLimit p (a + 1) (cn c0) (cn v)) (q.1 13 2 (4 * a + c0), pI q 13 2 (4 * a + c0) (cn v)) := by
  have hza : ¬ a + 1 = 0 := by omega
  obtain ⟨x, x1, x2, x3, x4⟩ := (H.2.1.2 a ha).2.1 c0 hc0
  have n0 : ¬ cn (c0 : Int) < 0 := by
    rw [zcn, cnlt ⟨by omega, by omega⟩ (by decide)]
    omega
  have n4 : cn (c0 : Int) < cn 4 := lpt (by omega) (by decide)
  have hi4 := cninb (i := c0) (n := 4) hc0 (by omega)
  have eC : v0_changeLimit p (a + 1) (cn c0) (cn v) = (p.1 13 (2 * (a + 1)) c0, pI p 13 (2 * (a + 1)) c0 (cn v)) ∧ g0_changeLimit p (a + 1) (cn c0) (cn v) := by
    have gl := g_limitOf p (a := a) (c := c0) (by omega) hc0
    have el := limitOf_e p (a + 1) hc0
    unfold v0_changeLimit bv0_changeLimit g0_changeLimit bg0_changeLimit
    simp only [if_neg n0, if_pos n4, el, cntk (i := c0) (by omega)]
    exact ⟨trivial, hza, gl, ⟨hza, by omega⟩, ⟨by omega, by omega⟩, ⟨hza, by omega⟩, ⟨⟨by omega, by omega⟩, hi4⟩, trivial⟩
  have ek : ∀ K, ¬ K = 13 → (pI p 13 (2 * (a + 1)) c0 (cn v)).1 K = p.1 K := by
    intro K h
    funext i S
    rw [pI_1, u3_k h]
  have ei : ∀ i S, ¬ i = 2 * (a + 1) → (pI p 13 (2 * (a + 1)) c0 (cn v)).1 13 i S = p.1 13 i S := fun i S h => by rw [pI_1, u3_i h]
  have e13 : ∀ K, ¬ K = 2 → (pI q 13 2 (4 * a + c0) (cn v)).1 13 K = q.1 13 K := by
    intro K h
    funext i
    rw [pI_1, u3_i h]
  have eqk : ∀ K, ¬ K = 13 → (pI q 13 2 (4 * a + c0) (cn v)).1 K = q.1 K := by
    intro K h
    funext i S
    rw [pI_1, u3_k h]
  refine ⟨eC.2, ?_⟩
  rw [eC.1]
  refine ev0 (by rw [x3, x4]) (ww_ac H (fun K _ h => ek K h) (fun i hi => by
    funext S
    exact ei i S (by omega)) rfl (fun K h => e13 K (by omega)) (fun K _ => by rw [eqk 15 (by decide)]) (eqk 12 (by decide)) ?_ ?_ (pd_c (e13 1 (by decide)) (by rw [eqk 12 (by decide)]) rfl H.2.2.2.2.2.1) ?_)
  · obtain ⟨j1, j2⟩ := H.2.2.2.2.1
    refine ⟨fun c hc => ?_, fun c hc => ?_⟩
    · rw [ek 0 (by decide)]
      exact j1 c hc
    · rw [ek 1 (by decide)]
      exact j2 c hc
  · refine ⟨fun c hc => ?_, fun c hc => ⟨(H.2.1.2 c hc).1, ?_⟩⟩
    · obtain ⟨h1, h2⟩ := H.2.1.1 c hc
      refine ⟨fun k hk => ?_, h2⟩
      rw [ei _ _ (by omega), e13 1 (by decide)]
      exact h1 k hk
    · obtain ⟨h1, h2, h3, h4, h5⟩ := (H.2.1.2 c hc).2
      unfold TrF
      rw [ek 0 (by decide), e13 3 (by decide), e13 4 (by decide), e13 5 (by decide), eqk 15 (by decide)]
      refine ⟨fun k hk => ?_, h2, h3, h4, h5⟩
      by_cases ec : c = a
      · rw [ec]
        by_cases ek : k = c0
        · rw [ek]
          exact ⟨v, v1, v2, pI_at, pI_at⟩
        · rw [pI_1, u3_s ek, pI_1, u3_s (by omega)]
          rw [ec] at h1
          exact h1 k hk
      · rw [ei _ _ (by omega), pI_1, u3_s (by omega)]
        exact h1 k hk
  · have hRS9 : RS (pI q 13 2 (4 * a + c0) (cn v)) 40 = RS q 40 := RS_same (q := q) (q' := pI q 13 2 (4 * a + c0) (cn v)) 40 fun i _ => by
      unfold rs
      rw [eqk 15 (by decide), e13 17 (by decide)]
    refine ⟨fun c hc => ?_, ?_⟩
    rotate_left
    · obtain ⟨zb, L, b1, b2, b3, b4, b5⟩ := H.2.2.2.2.2.2.2.2
      exact ⟨zb, L, by rw [e13 4 (by decide)]; exact b1, by rw [eqk 12 (by decide)]; exact b2, b3, by rw [hRS9]; exact b4, b5⟩
    obtain ⟨zz, z1, z2, z3⟩ := H.2.2.2.2.2.2.2.1 c hc
    refine ⟨zz, by rw [e13 4 (by decide)]; exact z1, z2, ?_⟩
    rw [RS_same (q := q) (q' := pI q 13 2 (4 * a + c0) (cn v)) 40 fun i _ => by
      unfold rs
      rw [eqk 15 (by decide), e13 17 (by decide)]]
    exact z3
/-- members, moves and the like alone change -/
theorem ww_ot {f : Nat → Int} (H : WW p q lg 99 99 (fun _ => False) N T D l f) (h1 : ∀ K, ¬ K = 2 → ¬ K = 9 → ¬ K = 13 → p'.1 K = p.1 K) (h13 : ∀ i, i ≤ 19 → p'.1 13 i = p.1 13 i) (h2 : p'.2 = p.2) (k1 : ∀ K, ¬ (35 ≤ K ∧ K ≤ 40) → q'.1 13 K = q.1 13 K) (k2 : ∀ K, ¬ K = 9 → ¬ K = 10 → q'.1 15 K = q.1 15 K) (k3 : ∀ S, S < 49 ∨ S = 95 → q'.1 12 1 S = q.1 12 1 S) (k4 : q'.2 = q.2) (hT : OT p' q' lg) : WW p' q' lg 99 99 (fun _ => False) N T D l f ∧ RS q' 40 = RS q 40 := by
  obtain ⟨hO, hA, hB, hD, hK, -, hI, hF⟩ := H
  refine ⟨⟨?_, ?_, ?_, ?_, ?_, hT, ?_, ?_⟩, RS_same 40 fun i _ => ?_⟩
  · exact ord_c (h1 10 (by decide) (by decide) (by decide)) (by rw [h2]) (by rw [h1 6 (by decide) (by decide) (by decide)]) (by rw [h1 6 (by decide) (by decide) (by decide)]) (fun K _ _ => k1 K (by omega)) (fun K _ _ => k2 K (by omega) (by omega)) (k3 39 (by decide)) (k3 40 (by decide)) hO
  · exact af_c (h1 0 (by decide) (by decide) (by decide)) (fun i hi => h13 i (by omega)) (by rw [h2]) (k1 1 (by omega)) (k1 2 (by omega)) (k1 3 (by omega)) (k1 4 (by omega)) (k1 5 (by omega)) (k2 1 (by decide) (by decide)) (by rw [k4]) hA
  · exact brl_c (h1 1 (by decide) (by decide) (by decide)) (fun i _ _ => k1 i (by omega)) (k2 2 (by decide) (by decide)) hB
  · exact dr_c (h1 4 (by decide) (by decide) (by decide)) (h1 7 (by decide) (by decide) (by decide)) (by rw [h2]) (fun i _ _ => k1 i (by omega)) (k2 7 (by decide) (by decide)) (k2 8 (by decide) (by decide)) (k3 48 (by decide)) hD
  · exact ck_c (h1 0 (by decide) (by decide) (by decide)) (h1 1 (by decide) (by decide) (by decide)) hK
  · exact iq_c (fun K _ _ => k1 K (by omega)) (fun K _ _ => k2 K (by omega) (by omega)) (k1 12 (by omega)) (k1 30 (by omega)) (k3 17 (by decide)) hI
  · exact fb_c (k2 3 (by decide) (by decide)) (k1 17 (by omega)) (k1 4 (by omega)) (k3 95 (by decide)) hF
  · unfold rs
    rw [k2 3 (by decide) (by decide), k1 17 (by omega)]
end Small
