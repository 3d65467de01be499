/-! a new order comes into a free place -/
theorem ww_new {p p' q q' : PM} {lg : Nat → Int32} {x x' a b N T D l : Nat} {r s z : Int} (H : WW p q lg 99 99 (fun _ => False) N T D l (fun _ => 0)) (ho : x < 40) (hd : q.1 15 3 x = cn 0)
    (p1 : ∀ i S, ¬ i = x + 1 → p'.1 10 i S = p.1 10 i S) (p1R : ∀ i S, ¬ i = x + 1 → p'.2.2 10 i S = p.2.2 10 i S) (p2 : ∀ K, ¬ K = 10 → ¬ K = 6 → p'.1 K = p.1 K) (p2R : ∀ K, ¬ K = 10 → p'.2.2 K = p.2.2 K) (p3 : ∀ S, ¬ S = 4 → p'.1 6 1 S = p.1 6 1 S) (p3J : p'.2.1 = p.2.1) (p4 : p'.1 6 1 4 = cn (N + 1 : Nat))
    (q1 : ∀ K, (K < 14 ∨ 28 < K) → q'.1 13 K = q.1 13 K) (q1x : ∀ K i, ¬ i = x → q'.1 13 K i = q.1 13 K i) (q5 : q'.1 12 1 95 = q.1 12 1 95 + cn r) (q2 : ∀ K, (K < 3 ∨ 6 < K) → q'.1 15 K = q.1 15 K) (q2x : ∀ K i, ¬ i = x → q'.1 15 K i = q.1 15 K i) (q3 : ∀ S, ¬ S = 39 → ¬ S = 95 → q'.1 12 1 S = q.1 12 1 S) (q3N : q'.1 12 1 39 = cn (N + 1 : Nat)) (q4 : q'.2 = q.2)
    (hl : q'.1 15 3 x = cn 1) (h24 : q'.1 13 24 x = cn 2) (h14 : q'.1 13 14 x = cn N) (hL : LV p' q' x' 99 x a b r s z) (hx : ∀ i, i < 40 → ¬ i = x → (i = x') = (i = 99)) (hN : N + 1 ≤ 1000000)
    (hQ : q'.1 13 19 x = cn 4 → ∀ i, i < 40 → ¬ i = x → q.1 15 3 i = cn 1 → q.1 13 19 i = cn 4 → q.1 13 15 i = cn a → q.1 13 16 i = cn b → ¬ q.1 15 4 i = q'.1 15 4 x) : WW p' q' lg x' 99 (fun _ => False) (N + 1) T D l (fun _ => 0) ∧ RS q' 40 = RS q 40 + r := by
  obtain ⟨⟨hO, hNR, hTR, hQU⟩, hA, hB, hD, hK, hI0, hI, hF⟩ := H
  have hns : ¬ stnd q' x := fun h => by
    have := h.2
    rw [h24] at this
    exact absurd this (by decide)
  have hst : ∀ i, stnd q' i → ¬ i = x ∧ stnd q i := fun i h => by
    have hne : ¬ i = x := fun e => hns (by rw [← e]; exact h)
    exact ⟨hne, by rw [← q2x 3 i hne]; exact h.1, by rw [← q1x 24 i hne]; exact h.2⟩
  have hr := hL.2.2.2.2.2.2.2.1
  have hRS : RS q' 40 = RS q 40 + r := by
    rw [RS_upd (q := q) (q' := q') (o := x) 40 ho fun i hi hne => by
      unfold rs
      rw [q2x 3 i hne, q1x 17 i hne]]
    have e1 : rs q' x = r := by
      unfold rs
      rw [hl, if_neg cn01, hr.2.2.2, cn_I ⟨by omega, by omega⟩]
    have e2 : rs q x = 0 := by
      unfold rs
      rw [hd]
      rfl
    omega
  refine ⟨⟨⟨⟨fun i hi => ?_, fun i h1 h2 => ?_⟩, ⟨fun i j hi hj li lj hn => ?_, fun i hi li => ?_, p4, q3N, hN⟩, ⟨fun i j hi hj si sj hb hy => ?_, fun i hi si => ?_, ?_, ?_, hTR.2.2.2.2⟩, fun i j hi hj li lj k1 k2 k3 k4 k5 => ?_⟩, ?_, ?_, ?_, ?_, ?_, ?_, ?_⟩, hRS⟩
  · by_cases e : i = x
    · rw [e]
      exact Or.inr ⟨hl, a, b, r, s, z, hL⟩
    · exact slot_congr (fun S => p1 _ S (by omega)) (fun S => p1R _ S (by omega)) (fun K _ _ _ => q1x K i e) (fun K _ _ => q2x K i e) (hx i hi e) (hO.1 i hi)
  · rw [q2x 3 i (by omega)]
    exact hO.2 i h1 h2
  · by_cases ei : i = x
    · by_cases ej : j = x
      · omega
      · rw [ei, h14, q1x 14 j ej] at hn
        rw [q2x 3 j ej] at lj
        obtain ⟨n, n1, n2⟩ := hNR.2.1 j hj lj
        have hN5 := hNR.2.2.2.2
        rw [n2, cneq ⟨by omega, by omega⟩ ⟨by omega, by omega⟩] at hn
        omega
    · rw [q2x 3 i ei] at li
      by_cases ej : j = x
      · rw [ej, h14, q1x 14 i ei] at hn
        obtain ⟨n, n1, n2⟩ := hNR.2.1 i hi li
        have hN5 := hNR.2.2.2.2
        rw [n2, cneq ⟨by omega, by omega⟩ ⟨by omega, by omega⟩] at hn
        omega
      · rw [q1x 14 i ei, q1x 14 j ej] at hn
        rw [q2x 3 j ej] at lj
        exact hNR.1 i j hi hj li lj hn
  · by_cases ei : i = x
    · exact ⟨N, by omega, by rw [ei]; exact h14⟩
    · rw [q2x 3 i ei] at li
      obtain ⟨n, n1, n2⟩ := hNR.2.1 i hi li
      exact ⟨n, by omega, by rw [q1x 14 i ei]; exact n2⟩
  · obtain ⟨ei, si'⟩ := hst i si
    obtain ⟨ej, sj'⟩ := hst j sj
    rw [q1x 16 i ei, q1x 16 j ej] at hb
    rw [q2x 4 i ei, q2x 4 j ej] at hy
    rw [p1 (i + 1) 12 (by omega), p1 (j + 1) 12 (by omega), q1x 23 i ei, q1x 23 j ej]
    exact hTR.1 i j hi hj si' sj' hb hy
  · obtain ⟨ei, si'⟩ := hst i si
    obtain ⟨t, u, k⟩ := hTR.2.1 i hi si'
    exact ⟨t, u, by rw [p1 (i + 1) 12 (by omega), q1x 23 i ei]; exact k⟩
  · rw [p3 5 (by decide)]
    exact hTR.2.2.1
  · rw [q3 40 (by decide) (by decide)]
    exact hTR.2.2.2.1
  · have ha := hL.1.2.1
    have hb := hL.2.1.2.1
    by_cases ei : i = x
    · by_cases ej : j = x
      · omega
      · rw [ei] at k1 k3 k4 k5
        rw [q2x 3 j ej] at lj
        rw [q1x 19 j ej] at k2
        rw [q1x 15 j ej, ha] at k3
        rw [q1x 16 j ej, hb] at k4
        rw [q2x 4 j ej] at k5
        exact absurd k5.symm (hQ k1 j hj ej lj k2 k3.symm k4.symm)
    · rw [q2x 3 i ei] at li
      rw [q1x 19 i ei] at k1
      by_cases ej : j = x
      · rw [ej] at k2 k3 k4 k5
        rw [q1x 15 i ei, ha] at k3
        rw [q1x 16 i ei, hb] at k4
        rw [q2x 4 i ei] at k5
        exact absurd k5 (hQ k2 i hi ei li k1 k3 k4)
      · rw [q2x 3 j ej] at lj
        rw [q1x 19 j ej] at k2
        rw [q1x 15 i ei, q1x 15 j ej] at k3
        rw [q1x 16 i ei, q1x 16 j ej] at k4
        rw [q2x 4 i ei, q2x 4 j ej] at k5
        exact hQU i j hi hj li lj k1 k2 k3 k4 k5
  · exact af_c (p2 0 (by decide) (by decide)) (fun i _ => by rw [p2 13 (by decide) (by decide)]) p3J (q1 1 (by decide)) (q1 2 (by decide)) (q1 3 (by decide)) (q1 4 (by decide)) (q1 5 (by decide)) (q2 1 (by decide)) (by rw [q4]) hA
  · exact brl_c (p2 1 (by decide) (by decide)) (fun i k1 k2 => q1 i (by omega)) (q2 2 (by decide)) hB
  · exact dr_c (p2 4 (by decide) (by decide)) (p2 7 (by decide) (by decide)) (p2R 4 (by decide)) (fun i k1 k2 => q1 i (by omega)) (q2 7 (by decide)) (q2 8 (by decide)) (q3 48 (by decide) (by decide)) hD
  · exact ck_c (p2 0 (by decide) (by decide)) (p2 1 (by decide) (by decide)) hK
  · exact ot_c (p2 9 (by decide) (by decide)) (fun i _ => by rw [p2 13 (by decide) (by decide)]) (p2 2 (by decide) (by decide)) (p3 2 (by decide)) (p3 3 (by decide)) (fun i k1 k2 => q1 i (by omega)) (q2 9 (by decide)) (q2 10 (by decide)) (fun i h => q3 i (by omega) (by omega)) hI0 (pd_c (q1 1 (by decide)) (q3 48 (by decide) (by decide)) (by rw [q4]) hI0)
  · obtain ⟨i1, i2, i3, i4⟩ := hI
    refine ⟨fun i hi h => ?_, fun i hi hww h => ?_, fun i u hi h => ?_, fun c hc => ?_⟩
    · obtain ⟨ei, h'⟩ := hst i h
      rw [q2x 5 i ei, q1x 16 i ei, q1 12 (by decide)]
      exact i1 i hi h'
    · obtain ⟨ei, h'⟩ := hst i h
      rw [q1x 16 i ei, q1x 19 i ei, q1x 22 i ei]
      exact i2 i hi hww h'
    · by_cases ei : i = x
      · rw [ei]
        intro _ h2
        exact absurd h24 h2
      · rw [q2x 3 i ei] at h
        rw [q1x 19 i ei, q1x 24 i ei, q1x 28 i ei, q1x 16 i ei, q1 30 (by decide)]
        exact i3 i u hi h
    · rw [q1 12 (by decide), q3 17 (by decide) (by decide)]
      exact i4 c hc
  · refine ⟨fun c hc => ?_, ?_⟩
    rotate_left
    · obtain ⟨zb, L, b1, b2, b3, b4, b5⟩ := hF.2
      have := hr.2.1
      exact ⟨zb, L + r, by rw [q1 4 (by decide)]; exact b1, by rw [q5, b2, cnadd], b3, by rw [hRS]; omega, by omega⟩
    obtain ⟨zz, z1, z2, z3⟩ := hF.1 c hc
    refine ⟨zz, by rw [q1 4 (by decide)]; exact z1, z2, ?_⟩
    have := hr.2.1
    rw [hRS]
    have e : ((N + 1 : Nat) : Int) = (N : Int) + 1 := by omega
    rw [e]
    omega
