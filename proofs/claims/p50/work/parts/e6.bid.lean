/-! a bid -/
section Bid
variable {p q : PM} {lg : Nat → Int32} {N T D l : Nat}
theorem bid_loop (hb : ∀ m, m < 4 → p.1 9 (m + 1) 4 = q.1 15 10 m) : ∀ (d i n n' : Nat) (c : Int32), i + d = 4 → d < n → d < n' → (g2_takeBid_33 n p c (cn i) ∧ g12_doBid_83 n' q c (cn i)) ∧ (v2_takeBid_33 n p c (cn i)).1 = (v12_doBid_83 n' q c (cn i)).1 ∧ (v2_takeBid_33 n p c (cn i)).2 = p ∧ (v12_doBid_83 n' q c (cn i)).2 = q := by
  intro d
  induction d with
  | zero =>
    intro i n n' c h1 h2 h3
    obtain ⟨n1, rfl⟩ : ∃ m, n = m + 1 := ⟨n - 1, by omega⟩
    obtain ⟨n2, rfl⟩ : ∃ m, n' = m + 1 := ⟨n' - 1, by omega⟩
    have e : i = 4 := by omega
    subst e
    have hn := lpf (i := 4) (N := 4) (by omega) (by omega) (by omega)
    rw [ev2_takeBid_33, eg2_takeBid_33, ev12_doBid_83, eg12_doBid_83]
    unfold bv2_takeBid_33 bg2_takeBid_33 bv12_doBid_83 bg12_doBid_83
    rw [if_neg hn, if_neg hn, if_neg hn, if_neg hn]
    exact ⟨⟨trivial, trivial⟩, rfl, rfl, rfl⟩
  | succ d ih =>
    intro i n n' c h1 h2 h3
    obtain ⟨n1, rfl⟩ : ∃ m, n = m + 1 := ⟨n - 1, by omega⟩
    obtain ⟨n2, rfl⟩ : ∃ m, n' = m + 1 := ⟨n' - 1, by omega⟩
    have hi := cninb (i := i) (n := 4) (by omega) (by omega)
    have l4 : cn (i : Int) < cn 4 := lpt (by omega) (by omega)
    have hb' := hb i (by omega)
    rw [ev2_takeBid_33, eg2_takeBid_33, ev12_doBid_83, eg12_doBid_83]
    unfold bv2_takeBid_33 bg2_takeBid_33 bv12_doBid_83 bg12_doBid_83
    simp only [if_pos l4, cntk (i := i) (by omega), hb', addz, cnsucc]
    by_cases e : q.1 15 10 i = 0
    · obtain ⟨⟨k1, k2⟩, k3⟩ := ih (i + 1) n1 n2 c (by omega) (by omega) (by omega)
      simp only [if_pos e]
      exact ⟨⟨⟨hi, k1⟩, hi, k2⟩, k3⟩
    · obtain ⟨⟨k1, k2⟩, k3⟩ := ih (i + 1) n1 n2 (c + cn 1) (by omega) (by omega) (by omega)
      simp only [if_neg e]
      exact ⟨⟨⟨hi, k1⟩, hi, k2⟩, k3⟩
theorem ev_bid {m : Nat} {v : Int} (H : WW p q lg 99 99 (fun _ => False) N T D l (fun _ => 0)) (hm : m < 4) (v1 : -9999 ≤ v) (v2 : v ≤ 9999) : (g2_takeBid p (cn m) (cn v) ∧ g12_doBid_83 FU (pI (pI q 15 10 m (cn 1)) 13 39 m (cn v)) (cn 0) (cn 0)) ∧ EvR lg q N T D l 60 0 (v2_takeBid p (cn m) (cn v)) (v12_doBid_83 FU (pI (pI q 15 10 m (cn 1)) 13 39 m (cn v)) (cn 0) (cn 0)) := by
  obtain ⟨a1, a2, a3, a4, a5, a6, a7, a8, a9, a10, a11⟩ := H.2.2.2.2.2.1
  have hz : ¬ m + 1 = 0 := by omega
  have em := member_e p hm
  have gm := g_member p hm
  have ek : ∀ K, ¬ K = 9 → (pI (pI p 9 (m + 1) 4 (cn 1)) 9 (m + 1) 5 (cn v)).1 K = p.1 K := by
    intro K h
    funext i S
    rw [pI_1, u3_k h, pI_1, u3_k h]
  have e9 : ∀ i S, ¬ S = 4 → ¬ S = 5 → (pI (pI p 9 (m + 1) 4 (cn 1)) 9 (m + 1) 5 (cn v)).1 9 i S = p.1 9 i S := fun i S h h' => by rw [pI_1, u3_s h', pI_1, u3_s h]
  have e9j : ∀ i S, ¬ i = m + 1 → (pI (pI p 9 (m + 1) 4 (cn 1)) 9 (m + 1) 5 (cn v)).1 9 i S = p.1 9 i S := fun i S h => by rw [pI_1, u3_i h, pI_1, u3_i h]
  have e94 : (pI (pI p 9 (m + 1) 4 (cn 1)) 9 (m + 1) 5 (cn v)).1 9 (m + 1) 4 = cn 1 := by rw [pI_1, u3_s (by decide), pI_at]
  have e95 : (pI (pI p 9 (m + 1) 4 (cn 1)) 9 (m + 1) 5 (cn v)).1 9 (m + 1) 5 = cn v := pI_at
  have e13 : ∀ K, ¬ K = 39 → (pI (pI q 15 10 m (cn 1)) 13 39 m (cn v)).1 13 K = q.1 13 K := by
    intro K h
    funext i
    rw [pI_1, u3_i h, pI_1, u3_k (by decide)]
  have e39 : ∀ i, (pI (pI q 15 10 m (cn 1)) 13 39 m (cn v)).1 13 39 i = if i = m then cn v else q.1 13 39 i := fun i => by
    by_cases e : i = m
    · rw [if_pos e, e, pI_at]
    · rw [if_neg e, pI_1, u3_s e, pI_1, u3_k (by decide)]
  have e15 : ∀ K, ¬ K = 10 → (pI (pI q 15 10 m (cn 1)) 13 39 m (cn v)).1 15 K = q.1 15 K := by
    intro K h
    funext i
    rw [pI_1, u3_k (by decide), pI_1, u3_i h]
  have e10 : ∀ i, (pI (pI q 15 10 m (cn 1)) 13 39 m (cn v)).1 15 10 i = if i = m then cn 1 else q.1 15 10 i := fun i => by
    by_cases e : i = m
    · rw [if_pos e, e, pI_1, u3_k (by decide), pI_at]
    · rw [if_neg e, pI_1, u3_k (by decide), pI_1, u3_s e]
  have e12 : (pI (pI q 15 10 m (cn 1)) 13 39 m (cn v)).1 12 = q.1 12 := by
    funext i S
    rw [pI_1, u3_k (by decide), pI_1, u3_k (by decide)]
  have W1 := ww_ot (p' := pI (pI p 9 (m + 1) 4 (cn 1)) 9 (m + 1) 5 (cn v)) (q' := pI (pI q 15 10 m (cn 1)) 13 39 m (cn v)) H (fun K _ h _ => ek K h) (fun i hi => by rw [ek 13 (by decide)]) rfl (fun K h => e13 K (by omega)) (fun K _ h => e15 K h) (fun S h => by rw [e12]) rfl ⟨fun m' hm' => by
      obtain ⟨h1, h2, h3, h4, h5, h6⟩ := a1 m' hm'
      rw [e9 _ 0 (by decide) (by decide), e9 _ 1 (by decide) (by decide), e9 _ 2 (by decide) (by decide), e9 _ 3 (by decide) (by decide), e13 36 (by decide), e13 37 (by decide), e13 38 (by decide), e15 9 (by decide), e10, e39]
      refine ⟨h1, h2, h3, h4, ?_, ?_⟩
      · by_cases e : m' = m
        · rw [if_pos e, e, e94]
          exact ⟨rfl, b1⟩
        · rw [if_neg e, e9j _ _ (by omega)]
          exact h5
      · by_cases e : m' = m
        · rw [if_pos e, if_pos e, e, e95]
          exact fun _ => ⟨v, v1, v2, rfl, rfl⟩
        · rw [if_neg e, if_neg e, e9j _ _ (by omega)]
          exact h6, fun s' c' hs' hc' => by
      rw [ek 13 (by decide), e13 35 (by decide)]
      exact a2 s' c' hs' hc', by
      rw [ek 2 (by decide), e12]
      exact a3, by
      rw [ek 2 (by decide), e12]
      exact a4, by
      rw [ek 2 (by decide), e12]
      exact a5, by
      rw [ek 6 (by decide), e12]
      exact a6, by
      rw [ek 6 (by decide), e12]
      exact a7, fun j => by
      rw [e13 40 (by decide)]
      exact a8 j, by
      rw [e12]
      exact a9, by
      rw [e12]
      exact a10, pd_c (e13 1 (by decide)) (by rw [e12]) rfl H.2.2.2.2.2.1⟩
  obtain ⟨W1, R1⟩ := W1
  obtain ⟨F, hF, hF2⟩ : ∃ F, FU = F ∧ 100 < F := ⟨FU, rfl, by decide⟩
  obtain ⟨⟨k1, k2⟩, k3, k4, k5⟩ := bid_loop (p := pI (pI p 9 (m + 1) 4 (cn 1)) 9 (m + 1) 5 (cn v)) (q := pI (pI q 15 10 m (cn 1)) 13 39 m (cn v)) (fun m' hm' => (W1.2.2.2.2.2.1.1 m' hm').2.2.2.2.1.1) 4 0 F F (cn 0) rfl (by omega) (by omega)
  have z0 : cn ((0 : Nat) : Int) = cn 0 := rfl
  rw [z0] at k1 k2 k3 k4 k5
  have eC : v2_takeBid p (cn m) (cn v) = v2_takeBid_33 F (pI (pI p 9 (m + 1) 4 (cn 1)) 9 (m + 1) 5 (cn v)) (cn 0) (cn 0) ∧ g2_takeBid p (cn m) (cn v) := by
    unfold v2_takeBid bv2_takeBid g2_takeBid bg2_takeBid
    simp only [em, hF]
    exact ⟨trivial, gm, hz, hz, k1⟩
  rw [hF]
  refine ⟨⟨eC.2, k2⟩, ?_⟩
  rw [eC.1]
  refine ⟨k3, N, T, D, ⟨Nat.le_refl _, Nat.le_refl _⟩, ⟨Nat.le_refl _, Nat.le_refl _⟩, ?_, ?_, ?_⟩
  · rw [k4, k5]
    exact W1
  · rw [k5]
    omega
  · rw [k5]
    omega
end Bid
