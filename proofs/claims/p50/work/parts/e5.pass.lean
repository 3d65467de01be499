/-! ticks pass -/
theorem pass_loop {lg : Nat → Int32} {N m : Nat} (hm : m ≤ 20) : ∀ (d k n n' : Nat) (p q : PM) (T D t : Nat), k + d = m → d < n → d < n' → WW p q lg 99 99 (fun _ => False) N T D 6 (fun _ => 0) → NPA q → q.1 12 1 17 = cn t → t + d ≤ 900000 → T + RS q 40 + 480 * d + 2700 ≤ 1000000000 → D + RS q 40 + 4400 ≤ 1000000000 → (g5_letPass_2 n p (cn m) (cn k) ∧ g12_passes_2 n' q (cn m) (cn k)) ∧ (v5_letPass_2 n p (cn m) (cn k)).1 = cn (t + d : Nat) ∧ ∃ T2 D2, (T ≤ T2 ∧ D ≤ D2) ∧ WW (v5_letPass_2 n p (cn m) (cn k)).2 (v12_passes_2 n' q (cn m) (cn k)) lg 99 99 (fun _ => False) N T2 D2 6 (fun _ => 0) ∧ NPA (v12_passes_2 n' q (cn m) (cn k)) ∧ (v12_passes_2 n' q (cn m) (cn k)).1 12 1 17 = cn (t + d : Nat) ∧ T2 + RS (v12_passes_2 n' q (cn m) (cn k)) 40 ≤ T + RS q 40 + 480 * d ∧ D2 + RS (v12_passes_2 n' q (cn m) (cn k)) 40 ≤ D + RS q 40 := by
  intro d
  induction d with
  | zero =>
    intro k n n' p q T D t h1 h2 h3 H hn h17 ht hT hD
    obtain ⟨n1, rfl⟩ : ∃ m, n = m + 1 := ⟨n - 1, by omega⟩
    obtain ⟨n2, rfl⟩ : ∃ m, n' = m + 1 := ⟨n' - 1, by omega⟩
    have hnow : p.1 6 1 2 = cn t := by
      obtain ⟨t', -, w1, w2⟩ := H.2.2.2.2.2.1.2.2.2.2.2.1
      rw [w1, ← w2, h17]
    have nl : ¬ cn (k : Int) < cn (m : Int) := by
      rw [cnlt ⟨by omega, by omega⟩ ⟨by omega, by omega⟩]
      omega
    rw [ev5_letPass_2, eg5_letPass_2, ev12_passes_2, eg12_passes_2]
    unfold bv5_letPass_2 bg5_letPass_2 bv12_passes_2 bg12_passes_2
    rw [if_neg nl, if_neg nl, if_neg nl, if_neg nl]
    exact ⟨⟨trivial, trivial⟩, hnow, T, D, ⟨Nat.le_refl _, Nat.le_refl _⟩, H, hn, h17, by omega, by omega⟩
  | succ d ih =>
    intro k n n' p q T D t h1 h2 h3 H hn h17 ht hT hD
    obtain ⟨n1, rfl⟩ : ∃ m, n = m + 1 := ⟨n - 1, by omega⟩
    obtain ⟨n2, rfl⟩ : ∃ m, n' = m + 1 := ⟨n' - 1, by omega⟩
    obtain ⟨F, hF, hF2⟩ : ∃ F, FU = F ∧ 100 < F := ⟨FU, rfl, by decide⟩
    have hnow : p.1 6 1 2 = cn t := by
      obtain ⟨t', -, w1, w2⟩ := H.2.2.2.2.2.1.2.2.2.2.2.1
      rw [w1, ← w2, h17]
    have lt : cn (k : Int) < cn (m : Int) := by
      rw [cnlt ⟨by omega, by omega⟩ ⟨by omega, by omega⟩]
      omega
    have hs : cn (t : Int) + cn 1 = cn ((t + 1 : Nat) : Int) := cnsucc t
    have hk : cn (k : Int) + cn 1 = cn ((k + 1 : Nat) : Int) := cnsucc k
    have z0 : cn ((0 : Nat) : Int) = cn 0 := rfl
    obtain ⟨g1, q1, a1, a2, W1, R1, n1', b17⟩ := ww_tick (kv2 := v12_passes_2 n2) (kg2 := g12_passes_2 n2) (v1 := cn m) (v2 := cn k) hF hF2 H hn (by omega) h17
    obtain ⟨P, Q, T1, D1, e1, e2, e3, e4, W2, n2', c17, ⟨t1, t2⟩, s1, s2⟩ := p94_loop (kvC := v5_letPass_2 n1) (kgC := g5_letPass_2 n1) (kvQ := v12_passes_2 n2) (kgQ := g12_passes_2 n2) (v1 := cn m) (v2 := cn k) (by omega : t + 1 ≤ 900000) 6 0 F F _ q1 T D rfl (by omega) (by omega) W1 n1' b17 (by omega) (by omega)
    rw [z0] at e1 e2 e3 e4
    rw [hk] at e1 e2 e3 e4
    have RQ := RS_rng W2.1.1 40 (by decide)
    obtain ⟨⟨i1, i2⟩, i3, T2, D2, ⟨t3, t4⟩, W3, n3, c3, s3, s4⟩ := ih (k + 1) n1 n2 P Q T1 D1 (t + 1) (by omega) (by omega) (by omega) W2 n2' c17 (by omega) (by omega) (by omega)
    have eC : v5_letPass_2 (n1 + 1) p (cn m) (cn k) = v5_letPass_2 n1 P (cn m) (cn (k + 1 : Nat)) ∧ g5_letPass_2 (n1 + 1) p (cn m) (cn k) := by
      rw [ev5_letPass_2, eg5_letPass_2, hF]
      unfold bv5_letPass_2 bg5_letPass_2
      simp only [if_pos lt, hnow, hs]
      exact ⟨e1, g1, e2 i1⟩
    have eQ : v12_passes_2 (n2 + 1) q (cn m) (cn k) = v12_passes_2 n2 Q (cn m) (cn (k + 1 : Nat)) ∧ g12_passes_2 (n2 + 1) q (cn m) (cn k) := by
      rw [ev12_passes_2, eg12_passes_2, hF]
      unfold bv12_passes_2 bg12_passes_2
      simp only [if_pos lt, h17, hs]
      exact ⟨a1.trans e3, a2 (e4 i2)⟩
    have ed : t + (d + 1) = t + 1 + d := by omega
    rw [eC.1, eQ.1, ed]
    exact ⟨⟨eC.2, eQ.2⟩, i3, T2, D2, ⟨by omega, by omega⟩, W3, n3, c3, by omega, by omega⟩
